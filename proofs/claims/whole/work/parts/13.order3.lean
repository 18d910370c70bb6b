/-! ORDER: tie, untie -/
/-- what tie makes of a row: the places of the set 'at' below k get 'up' too -/
def orow (at' up : Nat) (r : Nat → Nat) (k : Nat) : Nat → Nat := fun j => if j < k ∧ at'.testBit j = true then r j ||| up else r j
def ocame (lo up : Nat) (ab : Nat → Nat) : Nat → Nat
  | 0 => 0
  | k + 1 => ocame lo up ab k + (if lo.testBit k = true then npc 14 (ndf up (ab k)) else 0)
theorem orow_ge {at' up : Nat} {r : Nat → Nat} {k j : Nat} (h : k ≤ j) : orow at' up r k j = r j := by
  unfold orow
  rw [if_neg (by omega)]
theorem orow_in {at' up : Nat} {r : Nat → Nat} {k : Nat} (h : at'.testBit k = true) : ∀ j, upd (fun j => nI (orow at' up r k j)) k (nI (r k) ||| nI up) j = nI (orow at' up r (k + 1) j) := by
  intro j
  by_cases e : j = k
  · rw [e, pk_us, nb_or]
    unfold orow
    rw [if_pos ⟨by omega, h⟩]
  · rw [pk_un e]
    unfold orow
    by_cases h2 : j < k ∧ at'.testBit j = true
    · rw [if_pos h2, if_pos ⟨by omega, h2.2⟩]
    · rw [if_neg h2, if_neg (fun q => h2 ⟨by omega, q.2⟩)]
theorem orow_out {at' up : Nat} {r : Nat → Nat} {k : Nat} (h : at'.testBit k = false) : ∀ j, orow at' up r k j = orow at' up r (k + 1) j := by
  intro j
  unfold orow
  by_cases h2 : j < k ∧ at'.testBit j = true
  · rw [if_pos h2, if_pos ⟨by omega, h2.2⟩]
  · rw [if_neg h2, if_neg (fun q => h2 ⟨by
      have : j ≠ k := fun e => by rw [e, h] at q; exact absurd q.2 (by decide)
      omega, q.2⟩)]
set_option maxHeartbeats 4000000 in
set_option maxRecDepth 100000 in
theorem c_tie (K : zK) (o b a : Nat) (bl ab : Nat → Nat) (n : Nat) (ver : Int32) {i j : Nat} (hi : i < 14) (hj : j < 14) (hn : n ≤ 14) (hb : ∀ v, bl v < 2 ^ 14) (ha : ∀ v, ab v < 2 ^ 14) (lo up : Nat) (elo : lo = bl i ||| 2 ^ i) (eup : up = ab j ||| 2 ^ j) :
    zD K yX4_tie cX4_tie 7 (some .int) (zq 1 0 0 21) [.ref o, .int (nI i), .int (nI j)] (wO K o b a bl ab n ver) (some (.int (nI (ocame lo up ab n)))) (wO K o b a (orow up lo bl n) (orow lo up ab n) n (if nI (ocame lo up ab n) = 0 then ver else ver + 1)) := by
  have hlo : lo < 2 ^ 14 := by rw [elo]; exact nb_lt_or (hb i) (nb_lt_pow hi)
  have hup : up < 2 ^ 14 := by rw [eup]; exact nb_lt_or (ha j) (nb_lt_pow hj)
  refine zo (by decide) (Nat.le_of_ble_eq_true rfl) fun x C R _ => ?_
  have loop : ∀ m k, k + m = n → zv_V x (gz K (zq 1 0 0 21) 7 cX4_tie yX4_tie.cls) 19 [(0, .ref o), (1, .int (nI i)), (2, .int (nI j)), (3, .int (nI lo)), (4, .int (nI up)), (5, .int (nI (ocame lo up ab k))), (6, .int (nI k))] [] (wO K o b a (orow up lo bl k) (orow lo up ab k) n ver) 0 0 := by
    intro m
    induction m with
    | zero =>
      intro k hk
      have e : k = n := by omega
      subst e
      refine zv_go C okX4_tie [] 20 ?_
      refine ⟨rfl, fun _ => ?_, fun h => absurd (nI_le (Nat.le_refl _) (by omega)) h⟩
      refine zv_callV C (c_changeBy K o b a _ _ k ver _) (zw_V inX4_changeBy kX4_37 ⟨by decide, by decide⟩) [0, 1, 2] 0 rfl rfl rfl rfl (fun _ => Nat.le_refl _) rfl rfl (by decide) dzX4_tie_99 (by decide) (by decide) rfl (fun _ _ => ?_)
      refine zv_go C okX4_tie [] 20 ?_
      exact zr R () [0, 1, 2] (some (.int _)) _ rfl rfl trivial rfl rfl (Nat.le_refl _) (Nat.le_refl _) dzX4_tie_104
    | succ m ih =>
      intro k hk
      -- the second half: the place in 'below'
      have half : ∀ cm : Nat, cm = ocame lo up ab (k + 1) → zv_V x (gz K (zq 1 0 0 21) 7 cX4_tie yX4_tie.cls) 69 [(0, .ref o), (1, .int (nI i)), (2, .int (nI j)), (3, .int (nI lo)), (4, .int (nI up)), (5, .int (nI cm)), (6, .int (nI k))] [] (wO K o b a (orow up lo bl k) (orow lo up ab (k + 1)) n ver) 0 0 := by
        intro cm hcm
        subst hcm
        refine zv_go C okX4_tie [19] 30 ?_
        refine ⟨fun h => ?_, fun h => ⟨rfl, ⟨rfl, rfl⟩, vp_in_nI (by omega) (by decide), ⟨rfl, rfl⟩, vp_in_nI (by omega) (by decide), ?_⟩⟩
        · rw [nb_t0 (Nat.lt_trans hup (by decide)) (by omega)] at h
          refine zv_to C (lv' := [(0, .ref o), (1, .int (nI i)), (2, .int (nI j)), (3, .int (nI lo)), (4, .int (nI up)), (5, .int (nI (ocame lo up ab (k + 1)))), (6, .int (nI (k + 1)))]) (by rw [← nI_1]; rfl) rfl (ws' := wO K o b a (orow up lo bl (k + 1)) (orow lo up ab (k + 1)) n ver) ?_ (ih (k + 1) (by omega))
          have e : orow up lo bl k = orow up lo bl (k + 1) := funext (orow_out h)
          rw [e]
        · rw [nb_t1 (Nat.lt_trans hup (by decide)) (by omega)] at h
          refine zv_to C (lv' := [(0, .ref o), (1, .int (nI i)), (2, .int (nI j)), (3, .int (nI lo)), (4, .int (nI up)), (5, .int (nI (ocame lo up ab (k + 1)))), (6, .int (nI (k + 1)))]) (by rw [← nI_1]; rfl) rfl (ws' := wO K o b a (orow up lo bl (k + 1)) (orow lo up ab (k + 1)) n ver) ?_ (ih (k + 1) (by omega))
          have e : upd (fun j => nI (orow up lo bl k j)) (nI k).toNatClampNeg (nI (orow up lo bl k (nI k).toNatClampNeg) ||| nI lo) = fun j => nI (orow up lo bl (k + 1) j) := by
            rw [nI_clamp (by omega), orow_ge (Nat.le_refl _)]
            exact funext (orow_in h)
          show [(o, _), (b, Sum.inl (cI K, 14, Sum.inl (upd (fun j => nI (orow up lo bl k j)) (nI k).toNatClampNeg (nI (orow up lo bl k (nI k).toNatClampNeg) ||| nI lo)))), _] = _
          rw [e]
      refine zv_go C okX4_tie [69] 20 ?_
      refine ⟨rfl, fun h => absurd h (nI_ge (by omega) (by omega)), fun _ => ⟨fun h => ?_, fun h => ⟨rfl, ⟨rfl, rfl⟩, vp_in_nI (by omega) (by decide), ?_⟩⟩⟩
      · rw [nb_t0 (Nat.lt_trans hlo (by decide)) (by omega)] at h
        have e : orow lo up ab k = orow lo up ab (k + 1) := funext (orow_out h)
        refine zv_to C rfl rfl (ws' := wO K o b a (orow up lo bl k) (orow lo up ab (k + 1)) n ver) (by rw [e]) (half _ ?_)
        simp [ocame, h]
      · rw [nb_t1 (Nat.lt_trans hlo (by decide)) (by omega)] at h
        have hlt : ndf up (ab k) < 2 ^ 14 := Nat.lt_of_le_of_lt (ndf_le _ _) hup
        refine zv_callS C (c_bitCount K hlt) (zw_S inJ6_bitCount_0f7a4 kX4_32 ⟨by decide, by decide⟩) [] rfl rfl (fun _ => Nat.le_refl _) (rest := [.int (nI (ocame lo up ab k))]) ?_ rfl (Nat.le_of_ble_eq_true rfl) dzX4_tie_51 (by decide) (by decide) rfl (fun _ _ => ?_)
        · show [Value.int (nI up &&& (nI (orow lo up ab k (nI k).toNatClampNeg) ^^^ (-1))), _] = _
          rw [nI_clamp (by omega), orow_ge (Nat.le_refl _), nb_not]
          rfl
        refine zv_to C rfl rfl (ws' := wO K o b a (orow up lo bl k) (orow lo up ab k) n ver) rfl ?_
        refine zv_go C okX4_tie [69] 20 ?_
        refine ⟨rfl, ⟨rfl, rfl⟩, vp_in_nI (by omega) (by decide), ⟨rfl, rfl⟩, vp_in_nI (by omega) (by decide), ?_⟩
        have e : upd (fun j => nI (orow lo up ab k j)) (nI k).toNatClampNeg (nI (orow lo up ab k (nI k).toNatClampNeg) ||| nI up) = fun j => nI (orow lo up ab (k + 1) j) := by
          rw [nI_clamp (by omega), orow_ge (Nat.le_refl _)]
          exact funext (orow_in h)
        refine zv_to C (lv' := [(0, .ref o), (1, .int (nI i)), (2, .int (nI j)), (3, .int (nI lo)), (4, .int (nI up)), (5, .int (nI (ocame lo up ab (k + 1)))), (6, .int (nI k))]) ?_ rfl (ws' := wO K o b a (orow up lo bl k) (orow lo up ab (k + 1)) n ver) ?_ (half _ rfl)
        · show [(0, Value.ref o), (1, .int (nI i)), (2, .int (nI j)), (3, .int (nI lo)), (4, .int (nI up)), (5, .int (nI (ocame lo up ab k) + nI (npc 14 (ndf up (ab k))))), (6, .int (nI k))] = _
          rw [nI_add]
          simp [ocame, h]
        · show [(o, _), _, (a, Sum.inl (cI K, 14, Sum.inl (upd (fun j => nI (orow lo up ab k j)) (nI k).toNatClampNeg (nI (orow lo up ab k (nI k).toNatClampNeg) ||| nI up))))] = _
          rw [e]
  refine zv_go C okX4_tie [] 2 ?_
  refine zv_callV C (c_downFrom K o b a bl ab n ver hi) (zw_V inX4_downFrom kX4_25 ⟨by decide, by decide⟩) [0, 1, 2] 0 rfl rfl rfl rfl (fun _ => Nat.le_refl _) rfl rfl (by decide) dzX4_tie_2 (by decide) (by decide) rfl (fun _ _ => ?_)
  refine zv_to C rfl rfl (ws' := wO K o b a bl ab n ver) rfl ?_
  refine zv_go C okX4_tie [] 3 ?_
  refine zv_callV C (c_upFrom K o b a bl ab n ver hj) (zw_V inX4_upFrom kX4_29 ⟨by decide, by decide⟩) [0, 1, 2] 0 rfl rfl rfl rfl (fun _ => Nat.le_refl _) rfl rfl (by decide) dzX4_tie_8 (by decide) (by decide) rfl (fun _ _ => ?_)
  refine zv_to C rfl rfl (ws' := wO K o b a bl ab n ver) rfl ?_
  refine zv_go C okX4_tie [19] 20 ?_
  refine zv_to C (lv' := [(0, .ref o), (1, .int (nI i)), (2, .int (nI j)), (3, .int (nI lo)), (4, .int (nI up)), (5, .int (nI (ocame lo up ab 0))), (6, .int (nI 0))]) (by rw [elo, eup]; rfl) rfl (ws' := wO K o b a (orow up lo bl 0) (orow lo up ab 0) n ver) ?_ (loop n 0 (by omega))
  have e1 : orow up lo bl 0 = bl := funext fun _ => orow_ge (Nat.zero_le _)
  have e2 : orow lo up ab 0 = ab := funext fun _ => orow_ge (Nat.zero_le _)
  rw [e1, e2]
/-- what untie makes of a row: thing v goes from the places below k -/
def ocut (v : Nat) (r : Nat → Nat) (k : Nat) : Nat → Nat := fun j => if j < k then ndf (r j) (2 ^ v) else r j
theorem ocut_in {v : Nat} {r : Nat → Nat} {k : Nat} : ∀ j, upd (fun j => nI (ocut v r k j)) k (nI (ndf (r k) (2 ^ v))) j = nI (ocut v r (k + 1) j) := by
  intro j
  by_cases e : j = k
  · rw [e, pk_us]
    unfold ocut
    rw [if_pos (by omega)]
  · rw [pk_un e]
    unfold ocut
    by_cases h2 : j < k
    · rw [if_pos h2, if_pos (by omega)]
    · rw [if_neg h2, if_neg (by omega)]
set_option maxHeartbeats 4000000 in
set_option maxRecDepth 100000 in
theorem c_untie (K : zK) (o b a : Nat) (bl ab : Nat → Nat) (n : Nat) (ver : Int32) {v : Nat} (hv : v < 14) (hn : n ≤ 14) (hb : ∀ v, bl v < 2 ^ 14) (ha : ∀ v, ab v < 2 ^ 14) :
    zD K yX4_untie cX4_untie 4 (some .int) (zq 1 0 0 21) [.ref o, .int (nI v)] (wO K o b a bl ab n ver) (some (.int (nI (npc 14 (bl v) + npc 14 (ab v))))) (wO K o b a (va_up (ocut v bl n) v 0) (va_up (ocut v ab n) v 0) n (if nI (npc 14 (bl v) + npc 14 (ab v)) = 0 then ver else ver + 1)) := by
  refine zo (by decide) (Nat.le_of_ble_eq_true rfl) fun x C R _ => ?_
  have up0 : ∀ (r : Nat → Nat), upd (fun j => nI (r j)) (nI v).toNatClampNeg 0 = fun j => nI (va_up r v 0 j) := by
    intro r
    rw [nI_clamp (by omega)]
    funext j
    unfold va_up
    by_cases e : j = v
    · rw [e, pk_us, if_pos rfl]; rfl
    · rw [pk_un e, if_neg e]
  have loop : ∀ m k, k + m = n → zv_V x (gz K (zq 1 0 0 21) 4 cX4_untie yX4_untie.cls) 22 [(0, .ref o), (1, .int (nI v)), (2, .int (nI (npc 14 (bl v) + npc 14 (ab v)))), (3, .int (nI k))] [] (wO K o b a (ocut v bl k) (ocut v ab k) n ver) 0 0 := by
    intro m
    induction m with
    | zero =>
      intro k hk
      have e : k = n := by omega
      subst e
      refine zv_go C okX4_untie [] 30 ?_
      refine ⟨rfl, fun _ => ⟨rfl, ⟨rfl, rfl⟩, vp_in_nI hv (by decide), rfl, ⟨rfl, rfl⟩, vp_in_nI hv (by decide), ?_⟩, fun h => absurd (nI_le (Nat.le_refl _) (by omega)) h⟩
      refine zv_to C rfl rfl (ws' := wO K o b a (va_up (ocut v bl k) v 0) (va_up (ocut v ab k) v 0) k ver) ?_ ?_
      · show [(o, _), (b, Sum.inl (cI K, 14, Sum.inl (upd (fun j => nI (ocut v bl k j)) (nI v).toNatClampNeg 0))), (a, Sum.inl (cI K, 14, Sum.inl (upd (fun j => nI (ocut v ab k j)) (nI v).toNatClampNeg 0)))] = _
        rw [up0, up0]
      refine zv_callV C (c_changeBy K o b a _ _ k ver _) (zw_V inX4_changeBy kX4_37 ⟨by decide, by decide⟩) [0, 1, 2] 0 rfl rfl rfl rfl (fun _ => Nat.le_refl _) rfl rfl (by decide) dzX4_untie_80 (by decide) (by decide) rfl (fun _ _ => ?_)
      refine zv_go C okX4_untie [] 20 ?_
      exact zr R () [0, 1, 2] (some (.int _)) _ rfl rfl trivial rfl rfl (Nat.le_refl _) (Nat.le_refl _) dzX4_untie_84
    | succ m ih =>
      intro k hk
      have stp : ∀ r : Nat → Nat, upd (fun j => nI (ocut v r k j)) (nI k).toNatClampNeg (nI (ocut v r k (nI k).toNatClampNeg) &&& ((1 : Int32) <<< (nI v &&& 31) ^^^ (-1))) = fun j => nI (ocut v r (k + 1) j) := by
        intro r
        have e : ocut v r k k = r k := by unfold ocut; rw [if_neg (by omega)]
        rw [nI_clamp (by omega), nb_1s v (by omega), nb_not, e]
        exact funext ocut_in
      refine zv_go C okX4_untie [22] 50 ?_
      refine ⟨rfl, fun h => absurd h (nI_ge (by omega) (by omega)), fun _ => ⟨rfl, ⟨rfl, rfl⟩, vp_in_nI (by omega) (by decide), ⟨rfl, rfl⟩, vp_in_nI (by omega) (by decide), rfl, ⟨rfl, rfl⟩, vp_in_nI (by omega) (by decide), ⟨rfl, rfl⟩, vp_in_nI (by omega) (by decide), ?_⟩⟩
      refine zv_to C (lv' := [(0, .ref o), (1, .int (nI v)), (2, .int (nI (npc 14 (bl v) + npc 14 (ab v)))), (3, .int (nI (k + 1)))]) (by rw [← nI_1]; rfl) rfl (ws' := wO K o b a (ocut v bl (k + 1)) (ocut v ab (k + 1)) n ver) ?_ (ih (k + 1) (by omega))
      show [(o, _), (b, Sum.inl (cI K, 14, Sum.inl (upd (fun j => nI (ocut v bl k j)) (nI k).toNatClampNeg (nI (ocut v bl k (nI k).toNatClampNeg) &&& ((1 : Int32) <<< (nI v &&& 31) ^^^ (-1)))))), (a, Sum.inl (cI K, 14, Sum.inl (upd (fun j => nI (ocut v ab k j)) (nI k).toNatClampNeg (nI (ocut v ab k (nI k).toNatClampNeg) &&& ((1 : Int32) <<< (nI v &&& 31) ^^^ (-1))))))] = _
      rw [stp, stp]
  refine zv_go C okX4_untie [] 20 ?_
  refine ⟨rfl, ⟨rfl, rfl⟩, vp_in_nI hv (by decide), ?_⟩
  refine zv_callS C (c_bitCount K (hb v)) (zw_S inJ6_bitCount_0f7a4 kX4_32 ⟨by decide, by decide⟩) [] rfl rfl (fun _ => Nat.le_refl _) (rest := []) (by rw [nI_clamp (by omega)]; rfl) rfl (Nat.le_of_ble_eq_true rfl) dzX4_untie_6 (by decide) (by decide) rfl (fun _ _ => ?_)
  refine zv_to C rfl rfl (ws' := wO K o b a bl ab n ver) rfl ?_
  refine zv_go C okX4_untie [] 20 ?_
  refine ⟨rfl, ⟨rfl, rfl⟩, vp_in_nI hv (by decide), ?_⟩
  refine zv_callS C (c_bitCount K (ha v)) (zw_S inJ6_bitCount_0f7a4 kX4_32 ⟨by decide, by decide⟩) [] rfl rfl (fun _ => Nat.le_refl _) (rest := [.int (nI (npc 14 (bl v)))]) (by rw [nI_clamp (by omega)]; rfl) rfl (Nat.le_of_ble_eq_true rfl) dzX4_untie_15 (by decide) (by decide) rfl (fun _ _ => ?_)
  refine zv_to C rfl rfl (ws' := wO K o b a bl ab n ver) rfl ?_
  refine zv_go C okX4_untie [22] 20 ?_
  refine zv_to C (lv' := [(0, .ref o), (1, .int (nI v)), (2, .int (nI (npc 14 (bl v) + npc 14 (ab v)))), (3, .int (nI 0))]) (by rw [← nI_add]; rfl) rfl (ws' := wO K o b a (ocut v bl 0) (ocut v ab 0) n ver) ?_ (loop n 0 (by omega))
  rfl
