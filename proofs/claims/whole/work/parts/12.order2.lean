/-! ORDER: canFollow, pairs, coversOf, startWith -/
set_option maxHeartbeats 4000000 in
set_option maxRecDepth 100000 in
theorem c_canFollow (K : zK) (o b a : Nat) (bl ab : Nat → Nat) (n : Nat) (ver : Int32) {s v : Nat} (hv : v < 14) (hb : bl v < 2 ^ 14) : zD K yX4_canFollow cX4_canFollow 3 (some .boolean) (zq 1 0 0 21) [.ref o, .int (nI s), .int (nI v)] (wO K o b a bl ab n ver) (some (.int (bI (decide (ndf (bl v ||| 2 ^ v) s = 2 ^ v))))) (wO K o b a bl ab n ver) := by
  have h1 : bl v ||| 2 ^ v < 2 ^ 14 := nb_lt_or hb (nb_lt_pow hv)
  have h2 : ndf (bl v ||| 2 ^ v) s < 2 ^ 32 := Nat.lt_of_le_of_lt (ndf_le _ _) (Nat.lt_trans h1 (by decide))
  have h3 : 2 ^ v < 2 ^ 32 := nb_lt_pow (by omega)
  refine zo (by decide) (Nat.le_of_ble_eq_true rfl) fun x C R _ => ?_
  refine zv_go C okX4_canFollow [] 2 ?_
  refine zv_callV C (c_downFrom K o b a bl ab n ver hv) (zw_V inX4_downFrom kX4_25 ⟨by decide, by decide⟩) [0, 1, 2] 0 rfl rfl rfl rfl (fun _ => Nat.le_refl _) rfl rfl (by decide) dzX4_canFollow_2 (by decide) (by decide) rfl (fun _ _ => ?_)
  refine zv_to C rfl rfl (ws' := wO K o b a bl ab n ver) rfl ?_
  refine zv_go C okX4_canFollow [] 20 ?_
  refine ⟨fun h => ?_, fun h => ?_⟩
  · rw [nb_not, nb_1s v (by omega), nb_inj h2 h3] at h
    exact zr R () [0, 1, 2] (some (.int 0)) _ (by rw [decide_eq_false h]; rfl) rfl trivial rfl rfl (Nat.le_refl _) (Nat.le_refl _) ⟨rfl, dzX4_canFollow_20⟩
  · rw [nb_not, nb_1s v (by omega), nb_inj h2 h3] at h
    exact zr R () [0, 1, 2] (some (.int 1)) _ (by rw [decide_eq_true h]; rfl) rfl trivial rfl rfl (Nat.le_refl _) (Nat.le_refl _) ⟨rfl, dzX4_canFollow_20⟩
def osum (ab : Nat → Nat) : Nat → Nat
  | 0 => 0
  | k + 1 => osum ab k + npc 14 (ab k)
set_option maxHeartbeats 4000000 in
set_option maxRecDepth 100000 in
theorem c_pairs (K : zK) (o b a : Nat) (bl ab : Nat → Nat) (n : Nat) (ver : Int32) (hn : n ≤ 14) (ha : ∀ j, ab j < 2 ^ 14) : zD K yX4_pairs cX4_pairs 3 (some .int) (zq 1 0 0 20) [.ref o] (wO K o b a bl ab n ver) (some (.int (nI (osum ab n)))) (wO K o b a bl ab n ver) := by
  refine zo (by decide) (Nat.le_of_ble_eq_true rfl) fun x C R _ => ?_
  have loop : ∀ m k, k + m = n → zv_V x (gz K (zq 1 0 0 20) 3 cX4_pairs yX4_pairs.cls) 4 [(0, .ref o), (1, .int (nI (osum ab k))), (2, .int (nI k))] [] (wO K o b a bl ab n ver) 0 0 := by
    intro m
    induction m with
    | zero =>
      intro k hk
      have e : k = n := by omega
      subst e
      refine zv_go C okX4_pairs [] 20 ?_
      refine ⟨rfl, fun _ => ?_, fun h => absurd (nI_le (Nat.le_refl _) (by omega)) h⟩
      exact zr R () [0, 1, 2] (some (.int _)) _ rfl rfl trivial rfl rfl (Nat.le_refl _) (Nat.le_refl _) dzX4_pairs_31
    | succ m ih =>
      intro k hk
      refine zv_go C okX4_pairs [] 20 ?_
      refine ⟨rfl, fun h => absurd h (nI_ge (by omega) (by omega)), fun _ => ⟨rfl, ⟨rfl, rfl⟩, vp_in_nI (by omega) (by decide), ?_⟩⟩
      refine zv_callS C (c_bitCount K (ha k)) (zw_S inJ6_bitCount_0f7a4 kX4_32 ⟨by decide, by decide⟩) [] rfl rfl (fun _ => Nat.le_refl _) (rest := [.int (nI (osum ab k))]) (by rw [nI_clamp (by omega)]; rfl) rfl (Nat.le_of_ble_eq_true rfl) dzX4_pairs_19 (by decide) (by decide) rfl (fun _ _ => ?_)
      refine zv_to C rfl rfl (ws' := wO K o b a bl ab n ver) rfl ?_
      refine zv_go C okX4_pairs [4] 20 ?_
      refine zv_to C (lv' := [(0, .ref o), (1, .int (nI (osum ab (k + 1)))), (2, .int (nI (k + 1)))]) ?_ rfl rfl (ih (k + 1) (by omega))
      show [(0, Value.ref o), (1, .int (nI (osum ab k) + nI (npc 14 (ab k)))), (2, .int (nI k + 1))] = _
      rw [nI_add, nI_1]
      rfl
  refine zv_go C okX4_pairs [4] 20 ?_
  exact loop n 0 (by omega)
def ocov (ab : Nat → Nat) (v : Nat) : Nat → Nat
  | 0 => ab v
  | k + 1 => if (ab v).testBit k = true then ndf (ocov ab v k) (ab k) else ocov ab v k
set_option maxHeartbeats 4000000 in
set_option maxRecDepth 100000 in
theorem c_coversOf (K : zK) (o b a : Nat) (bl ab : Nat → Nat) (n : Nat) (ver : Int32) {v : Nat} (hv : v < 14) (hn : n ≤ 14) (ha : ∀ j, ab j < 2 ^ 14) : zD K yX4_coversOf cX4_coversOf 4 (some .int) (zq 1 0 0 22) [.ref o, .int (nI v)] (wO K o b a bl ab n ver) (some (.int (nI (ocov ab v n)))) (wO K o b a bl ab n ver) := by
  refine zo (by decide) (Nat.le_of_ble_eq_true rfl) fun x C R _ => ?_
  have loop : ∀ m k, k + m = n → zv_V x (gz K (zq 1 0 0 22) 4 cX4_coversOf yX4_coversOf.cls) 9 [(0, .ref o), (1, .int (nI v)), (2, .int (nI (ocov ab v k))), (3, .int (nI k))] [] (wO K o b a bl ab n ver) 0 0 := by
    intro m
    induction m with
    | zero =>
      intro k hk
      have e : k = n := by omega
      subst e
      refine zv_go C okX4_coversOf [] 20 ?_
      refine ⟨rfl, fun _ => ?_, fun h => absurd (nI_le (Nat.le_refl _) (by omega)) h⟩
      exact zr R () [0, 1, 2] (some (.int _)) _ rfl rfl trivial rfl rfl (Nat.le_refl _) (Nat.le_refl _) dzX4_coversOf_44
    | succ m ih =>
      intro k hk
      refine zv_go C okX4_coversOf [] 20 ?_
      refine ⟨rfl, fun h => absurd h (nI_ge (by omega) (by omega)), fun _ => ?_⟩
      refine zv_callV C (c_under K o b a bl ab n ver (i := v) (j := k) hv (by omega) (Nat.lt_trans (ha v) (by decide))) (zw_V inX4_under kX4_41 ⟨by decide, by decide⟩) [0, 1, 2] 0 rfl rfl rfl rfl (fun _ => Nat.le_refl _) rfl rfl (by decide) dzX4_coversOf_20 (by decide) (by decide) rfl (fun _ _ => ?_)
      refine zv_to C rfl rfl (ws' := wO K o b a bl ab n ver) rfl ?_
      refine zv_go C okX4_coversOf [9] 20 ?_
      refine ⟨fun h => ?_, fun h => ⟨rfl, ⟨rfl, rfl⟩, vp_in_nI (by omega) (by decide), ?_⟩⟩
      · rw [bI_0] at h
        refine zv_to C (lv' := [(0, .ref o), (1, .int (nI v)), (2, .int (nI (ocov ab v (k + 1)))), (3, .int (nI (k + 1)))]) ?_ rfl rfl (ih (k + 1) (by omega))
        show [(0, Value.ref o), (1, .int (nI v)), (2, .int (nI (ocov ab v k))), (3, .int (nI k + 1))] = _
        rw [nI_1]
        simp only [ocov, h]
        rfl
      · rw [bI_1] at h
        refine zv_to C (lv' := [(0, .ref o), (1, .int (nI v)), (2, .int (nI (ocov ab v (k + 1)))), (3, .int (nI (k + 1)))]) ?_ rfl rfl (ih (k + 1) (by omega))
        show [(0, Value.ref o), (1, .int (nI v)), (2, .int (nI (ocov ab v k) &&& (nI (ab (nI k).toNatClampNeg) ^^^ (-1)))), (3, .int (nI k + 1))] = _
        rw [nI_1, nI_clamp (by omega), nb_not]
        simp only [ocov, h]
        rfl
  refine zv_go C okX4_coversOf [9] 20 ?_
  refine ⟨rfl, ⟨rfl, rfl⟩, vp_in_nI hv (by decide), ?_⟩
  refine zv_to C (lv' := [(0, .ref o), (1, .int (nI v)), (2, .int (nI (ocov ab v 0))), (3, .int (nI 0))]) ?_ rfl rfl (loop n 0 (by omega))
  show [(0, Value.ref o), (1, .int (nI v)), (2, .int (nI (ab (nI v).toNatClampNeg))), (3, .int 0)] = _
  rw [nI_clamp (by omega)]
  rfl
set_option maxHeartbeats 4000000 in
set_option maxRecDepth 100000 in
theorem c_startWith (K : zK) (o b a : Nat) (bl ab : Nat → Nat) (n t : Nat) (ver : Int32) : zD K yX4_startWith cX4_startWith 3 none (zq 0 0 0 0) [.ref o, .int (nI t)] (wO K o b a bl ab n ver) none (wO K o b a (fun _ => 0) (fun _ => 0) t (ver + 1)) := by
  refine zo (by decide) (Nat.le_of_ble_eq_true rfl) fun x C R _ => ?_
  have loop : ∀ m k (f g : Nat → Int32), k + m = 14 → (∀ j, j < k → f j = 0) → (∀ j, j < k → g j = 0) → zv_V x (gz K (zq 0 0 0 0) 3 cX4_startWith yX4_startWith.cls) 7 [(0, .ref o), (1, .int (nI t)), (2, .int (nI k))] [] [(o, .inr (4, [.ref b, .ref a, .int (nI t), .int ver])), (b, .inl (cI K, 14, .inl f)), (a, .inl (cI K, 14, .inl g))] 0 0 := by
    intro m
    induction m with
    | zero =>
      intro k f g hk hf hg
      have e : k = 14 := by omega
      subst e
      refine zv_exI C 1 (fun _ => nI 0) rfl (fun j hj => by rw [hf j hj]; rfl) ?_
      refine zv_exI C 2 (fun _ => nI 0) rfl (fun j hj => by rw [hg j hj]; rfl) ?_
      refine zv_go C okX4_startWith [] 20 ?_
      refine ⟨fun _ => ?_, fun h => absurd (by decide) h⟩
      refine ⟨rfl, rfl, ?_⟩
      exact zr R () [0, 1, 2] none _ rfl rfl trivial rfl rfl (Nat.le_refl _) (Nat.le_refl _) dzX4_startWith_43
    | succ m ih =>
      intro k f g hk hf hg
      refine zv_go C okX4_startWith [7] 30 ?_
      refine ⟨fun h => absurd h (nI_ge (b := 14) (by omega) (by omega)), fun _ => ⟨rfl, ⟨rfl, rfl⟩, vp_in_nI (by omega) (by decide), rfl, ⟨rfl, rfl⟩, vp_in_nI (by omega) (by decide), ?_⟩⟩
      refine zv_to C (lv' := [(0, .ref o), (1, .int (nI t)), (2, .int (nI (k + 1)))]) (by rw [← nI_1]; rfl) rfl rfl (ih (k + 1) _ _ (by omega) ?_ ?_)
      · intro j hj
        rw [nI_clamp (by omega)]
        by_cases e : j = k
        · rw [e, pk_us]
        · rw [pk_un e]; exact hf j (by omega)
      · intro j hj
        rw [nI_clamp (by omega)]
        by_cases e : j = k
        · rw [e, pk_us]
        · rw [pk_un e]; exact hg j (by omega)
  refine zv_go C okX4_startWith [7] 20 ?_
  refine ⟨rfl, ?_⟩
  exact loop 14 0 _ _ rfl (fun j hj => absurd hj (Nat.not_lt_zero _)) (fun j hj => absurd hj (Nat.not_lt_zero _))
