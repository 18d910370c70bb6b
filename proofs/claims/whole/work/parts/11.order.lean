/-! ORDER: the leaves. bl j, ab j: the sets below and above thing j; n things; ver: how often it changed -/
abbrev wO (K : zK) (o b a : Nat) (bl ab : Nat → Nat) (n : Nat) (ver : Int32) : va_W := [(o, .inr (4, [.ref b, .ref a, .int (nI n), .int ver])), (b, .inl (cI K, 14, .inl (fun j => nI (bl j)))), (a, .inl (cI K, 14, .inl (fun j => nI (ab j))))]
def hasb (n : Nat) (v : Int32) : Bool := decide (0 ≤ v ∧ v < nI n)
set_option maxHeartbeats 4000000 in
set_option maxRecDepth 100000 in
theorem c_has (K : zK) (o b a : Nat) (bl ab : Nat → Nat) (n : Nat) (ver v : Int32) : zD K yX4_has cX4_has 2 (some .boolean) (zq 0 0 0 0) [.ref o, .int v] (wO K o b a bl ab n ver) (some (.int (bI (hasb n v)))) (wO K o b a bl ab n ver) := by
  refine zo (by decide) (Nat.le_of_ble_eq_true rfl) fun x C R _ => ?_
  refine zv_go C okX4_has [] 20 ?_
  refine ⟨fun h => ?_, fun h => ⟨rfl, fun h2 => ?_, fun h2 => ?_⟩⟩
  · exact zr R () [0, 1, 2] (some (.int 0)) _ (by unfold hasb; rw [decide_eq_false]; rfl; exact fun q => absurd q.1 (Int32.not_le.mpr h)) rfl trivial rfl rfl (Nat.le_refl _) (Nat.le_refl _) ⟨rfl, dzX4_has_17⟩
  · exact zr R () [0, 1, 2] (some (.int 0)) _ (by unfold hasb; rw [decide_eq_false]; rfl; exact fun q => absurd q.2 (Int32.not_lt.mpr h2)) rfl trivial rfl rfl (Nat.le_refl _) (Nat.le_refl _) ⟨rfl, dzX4_has_17⟩
  · exact zr R () [0, 1, 2] (some (.int 1)) _ (by unfold hasb; rw [decide_eq_true]; rfl; exact ⟨Int32.not_lt.mp h, Int32.not_le.mp h2⟩) rfl trivial rfl rfl (Nat.le_refl _) (Nat.le_refl _) ⟨rfl, dzX4_has_17⟩
set_option maxHeartbeats 4000000 in
set_option maxRecDepth 100000 in
theorem c_all (K : zK) (o b a : Nat) (bl ab : Nat → Nat) (n : Nat) (ver : Int32) (hn : n ≤ 14) : zD K yX4_all cX4_all 1 (some .int) (zq 0 0 0 0) [.ref o] (wO K o b a bl ab n ver) (some (.int (nI (2 ^ n - 1)))) (wO K o b a bl ab n ver) := by
  refine zo (by decide) (Nat.le_of_ble_eq_true rfl) fun x C R _ => ?_
  refine zv_go C okX4_all [] 20 ?_
  refine ⟨rfl, ?_⟩
  exact zr R () [0, 1, 2] (some (.int _)) _ (by rw [← nb_all n (by omega)]) rfl trivial rfl rfl (Nat.le_refl _) (Nat.le_refl _) dzX4_all_8
set_option maxHeartbeats 4000000 in
set_option maxRecDepth 100000 in
theorem c_under (K : zK) (o b a : Nat) (bl ab : Nat → Nat) (n : Nat) (ver : Int32) {i j : Nat} (hi : i < 14) (hj : j < 32) (hs : ab i < 2 ^ 32) : zD K yX4_under cX4_under 3 (some .boolean) (zq 0 0 0 0) [.ref o, .int (nI i), .int (nI j)] (wO K o b a bl ab n ver) (some (.int (bI ((ab i).testBit j)))) (wO K o b a bl ab n ver) := by
  refine zo (by decide) (Nat.le_of_ble_eq_true rfl) fun x C R _ => ?_
  refine zv_go C okX4_under [] 20 ?_
  refine ⟨rfl, ⟨rfl, rfl⟩, vp_in_nI hi (by decide), fun h => ?_, fun h => ?_⟩
  · rw [nI_clamp (by omega)] at h
    exact zr R () [0, 1, 2] (some (.int 0)) _ (by rw [(nb_t0 hs hj).mp h]; rfl) rfl trivial rfl rfl (Nat.le_refl _) (Nat.le_refl _) ⟨rfl, dzX4_under_18⟩
  · rw [nI_clamp (by omega)] at h
    exact zr R () [0, 1, 2] (some (.int 1)) _ (by rw [(nb_t1 hs hj).mp h]; rfl) rfl trivial rfl rfl (Nat.le_refl _) (Nat.le_refl _) ⟨rfl, dzX4_under_18⟩
set_option maxHeartbeats 4000000 in
set_option maxRecDepth 100000 in
theorem c_downFrom (K : zK) (o b a : Nat) (bl ab : Nat → Nat) (n : Nat) (ver : Int32) {i : Nat} (hi : i < 14) : zD K yX4_downFrom cX4_downFrom 2 (some .int) (zq 0 0 0 0) [.ref o, .int (nI i)] (wO K o b a bl ab n ver) (some (.int (nI (bl i ||| 2 ^ i)))) (wO K o b a bl ab n ver) := by
  refine zo (by decide) (Nat.le_of_ble_eq_true rfl) fun x C R _ => ?_
  refine zv_go C okX4_downFrom [] 20 ?_
  refine ⟨rfl, ⟨rfl, rfl⟩, vp_in_nI hi (by decide), ?_⟩
  exact zr R () [0, 1, 2] (some (.int _)) _ (by rw [nI_clamp (by omega), nb_1s i (by omega), nb_or]) rfl trivial rfl rfl (Nat.le_refl _) (Nat.le_refl _) dzX4_downFrom_10
set_option maxHeartbeats 4000000 in
set_option maxRecDepth 100000 in
theorem c_upFrom (K : zK) (o b a : Nat) (bl ab : Nat → Nat) (n : Nat) (ver : Int32) {i : Nat} (hi : i < 14) : zD K yX4_upFrom cX4_upFrom 2 (some .int) (zq 0 0 0 0) [.ref o, .int (nI i)] (wO K o b a bl ab n ver) (some (.int (nI (ab i ||| 2 ^ i)))) (wO K o b a bl ab n ver) := by
  refine zo (by decide) (Nat.le_of_ble_eq_true rfl) fun x C R _ => ?_
  refine zv_go C okX4_upFrom [] 20 ?_
  refine ⟨rfl, ⟨rfl, rfl⟩, vp_in_nI hi (by decide), ?_⟩
  exact zr R () [0, 1, 2] (some (.int _)) _ (by rw [nI_clamp (by omega), nb_1s i (by omega), nb_or]) rfl trivial rfl rfl (Nat.le_refl _) (Nat.le_refl _) dzX4_upFrom_10
set_option maxHeartbeats 4000000 in
set_option maxRecDepth 100000 in
theorem c_changeBy (K : zK) (o b a : Nat) (bl ab : Nat → Nat) (n : Nat) (ver c : Int32) : zD K yX4_changeBy cX4_changeBy 2 none (zq 0 0 0 0) [.ref o, .int c] (wO K o b a bl ab n ver) none (wO K o b a bl ab n (if c = 0 then ver else ver + 1)) := by
  refine zo (by decide) (Nat.le_of_ble_eq_true rfl) fun x C R _ => ?_
  refine zv_go C okX4_changeBy [] 20 ?_
  refine ⟨fun h => ?_, fun h => ⟨rfl, rfl, ?_⟩⟩
  · exact zr R () [0, 1, 2] none _ rfl (by rw [if_pos h]) trivial rfl rfl (Nat.le_refl _) (Nat.le_refl _) dzX4_changeBy_14
  · exact zr R () [0, 1, 2] none _ rfl (by rw [if_neg h]) trivial rfl rfl (Nat.le_refl _) (Nat.le_refl _) dzX4_changeBy_14
set_option maxHeartbeats 4000000 in
set_option maxRecDepth 100000 in
theorem c_bitCount (K : zK) {s : Nat} (hs : s < 2 ^ 14) : zD K yJ6_bitCount_0f7a4 cJ6_bitCount_0f7a4 1 (some .int) (zq 0 0 0 0) [.int (nI s)] [] (some (.int (nI (npc 14 s)))) [] := by
  refine zo (by decide) (Nat.le_of_ble_eq_true rfl) fun x C R _ => ?_
  refine zv_go C okJ6_bitCount_0f7a4 [] 60 ?_
  exact zr R () [] (some (.int _)) _ (by rw [← jbc_ok hs]; rfl) rfl trivial rfl rfl (Nat.le_refl _) (Nat.le_refl _) dzJ6_bitCount_0f7a4_52
