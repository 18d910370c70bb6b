/-! THE DESK: mu, muOfCuts -/
/-- the sets of an interval, as they are added, and how many -/
def mqS (bl : Nat → Nat) (bt : Nat) : Nat → (Nat → Nat) × Nat
  | 0 => (fun _ => 0, 0)
  | k + 1 => if bt.testBit k = true then (muI (mqS bl bt k).1 (bl k ||| 2 ^ k) (mqS bl bt k).2, (mqS bl bt k).2 + 1) else mqS bl bt k
theorem muI_lt {S : Nat → Nat} {v L : Nat} (hS : ∀ j, j < L → S j < 2 ^ 14) (hv : v < 2 ^ 14) : ∀ j, j < L + 1 → muI S v L j < 2 ^ 14 := by
  intro j hj
  have hp := muP_le S v L
  unfold muI
  split
  · exact hS j (by omega)
  · split
    · exact hv
    · exact hS (j - 1) (by omega)
theorem mqS_ok {bl : Nat → Nat} {bt : Nat} (hb : ∀ j, bl j < 2 ^ 14) : ∀ k, k ≤ 14 → (mqS bl bt k).2 ≤ k ∧ ∀ j, j < (mqS bl bt k).2 → (mqS bl bt k).1 j < 2 ^ 14
  | 0, _ => ⟨Nat.le_refl _, fun j hj => absurd hj (Nat.not_lt_zero _)⟩
  | k + 1, hk => by
    have h := mqS_ok (bt := bt) hb k (by omega)
    unfold mqS
    split
    · exact ⟨by show (mqS bl bt k).2 + 1 ≤ k + 1; omega, muI_lt h.2 (nb_lt_or (hb k) (nb_lt_pow (by omega)))⟩
    · exact ⟨by omega, h.2⟩
theorem mqS_mono {bl : Nat → Nat} {bt : Nat} {k n : Nat} (h : k ≤ n) : (mqS bl bt k).2 ≤ (mqS bl bt n).2 := by
  induction h with
  | refl => exact Nat.le_refl _
  | step _ ih =>
    refine Nat.le_trans ih ?_
    rename_i m _
    show (mqS bl bt m).2 ≤ (mqS bl bt (m + 1)).2
    conv => rhs; unfold mqS
    split
    · exact Nat.le_succ _
    · exact Nat.le_refl _
abbrev zqM (f cap L l : Nat) : Room := zq f (2 * (capA cap L - cap)) (4 * (capA cap L - cap)) l
section ZH
variable (K : zK) (A : Nat → Nat) (O : dO) (L : dL) (q : zS) (W : dW) (P : dP) (R : dR) (C : dC) (M : dM)
set_option maxHeartbeats 4000000 in
set_option maxRecDepth 100000 in
theorem d_mu_no (a b : Int32) (h : hasb O.2.2.1 a = false ∨ hasb O.2.2.1 b = false) : zD K yX8_mu cX8_mu 5 (some .int) (zq 1 0 0 22) [.ref (A 0), .int a, .int b] (wD K A O L q W P R C M) (some (.int 0)) (wD K A O L q W P R C M) := by
  refine zo (by decide) (Nat.le_of_ble_eq_true rfl) fun x Cx Rx _ => ?_
  refine zv_go Cx okX8_mu [] 3 ?_
  refine ⟨rfl, ?_⟩
  refine zv_callV Cx (c_has K (A 1) (A 2) (A 3) O.1 O.2.1 O.2.2.1 O.2.2.2 a) (zw_V inX4_has kX8_69 ⟨by decide, by decide⟩) [1, 2, 3] 1 rfl rfl rfl rfl (fun _ => Nat.le_refl _) rfl rfl (by decide) dzX8_mu_5 (by decide) (by decide) rfl (fun _ _ => ?_)
  refine zv_to Cx rfl rfl (ws' := wD K A O L q W P R C M) rfl ?_
  refine zv_go Cx okX8_mu [] 20 ?_
  refine ⟨fun h1 => ?_, fun h1 => ⟨rfl, ?_⟩⟩
  · exact zr Rx () (List.range 20) (some (.int 0)) _ rfl rfl trivial rfl rfl (Nat.zero_le _) (Nat.zero_le _) dzX8_mu_23
  refine zv_callV Cx (c_has K (A 1) (A 2) (A 3) O.1 O.2.1 O.2.2.1 O.2.2.2 b) (zw_V inX4_has kX8_69 ⟨by decide, by decide⟩) [1, 2, 3] 1 rfl rfl rfl rfl (fun _ => Nat.le_refl _) rfl rfl (by decide) dzX8_mu_16 (by decide) (by decide) rfl (fun _ _ => ?_)
  refine zv_to Cx rfl rfl (ws' := wD K A O L q W P R C M) rfl ?_
  refine zv_go Cx okX8_mu [] 3 ?_
  refine ⟨fun h2 => ?_, fun h2 => ?_⟩
  · rw [bI_1] at h1 h2
    rcases h with h | h
    · rw [h] at h1; cases h1
    · rw [h] at h2; cases h2
  · refine zv_go Cx okX8_mu [] 20 ?_
    exact zr Rx () (List.range 20) (some (.int 0)) _ rfl rfl trivial rfl rfl (Nat.zero_le _) (Nat.zero_le _) dzX8_mu_23
set_option maxHeartbeats 4000000 in
set_option maxRecDepth 100000 in
theorem d_mu {i j bt : Nat} (hbt : bt = (O.2.1 i ||| 2 ^ i) &&& (O.1 j ||| 2 ^ j)) (hi : i < O.2.2.1) (hj : j < O.2.2.1) (hn : O.2.2.1 ≤ 14) (hb : ∀ j, O.1 j < 2 ^ 14) (ha : ∀ j, O.2.1 j < 2 ^ 14) (h0 : 0 < M.2.2.1) (hcap : M.2.2.1 ≤ 32768) :
    zM (S := Nat × Nat × (Nat → Int32) × (Nat → Int32)) K yX8_mu cX8_mu 5 (some .int) (zqM 4 M.2.2.1 (mqS O.1 bt O.2.2.1).2 124) [.ref (A 0), .int (nI i), .int (nI j)] (wD K A O L q W P R C M) (fun _ => True) (fun _ => some (.int (muR (mqS O.1 bt O.2.2.1).1 (mqS O.1 bt O.2.2.1).2))) (fun u => wD K (va_up (va_up A 18 u.1) 19 u.2.1) O L q W P R C (u.2.2.1, u.2.2.2, capA M.2.2.1 (mqS O.1 bt O.2.2.1).2, nI (mqS O.1 bt O.2.2.1).2)) := by
  have hbtl : bt < 2 ^ 14 := by rw [hbt]; exact Nat.lt_of_le_of_lt Nat.and_le_left (nb_lt_or (ha i) (nb_lt_pow (by omega)))
  have hfin := mqS_ok (bt := bt) hb O.2.2.1 hn
  have hcf := capA_ok h0 hcap (mqS O.1 bt O.2.2.1).2 (by omega)
  refine zo (by decide) (Nat.le_of_ble_eq_true rfl) fun x Cx Rx _ => ?_
  refine zv_go Cx okX8_mu [] 3 ?_
  refine ⟨rfl, ?_⟩
  refine zv_callV Cx (c_has K (A 1) (A 2) (A 3) O.1 O.2.1 O.2.2.1 O.2.2.2 (nI i)) (zw_V inX4_has kX8_69 ⟨by show 0 + 1 ≤ 4; omega, by show 8 + (2 + 11) + 0 ≤ 124; omega⟩) [1, 2, 3] 1 rfl rfl rfl rfl (fun _ => Nat.le_refl _) rfl rfl (by decide) dzX8_mu_5 (Nat.zero_le _) (Nat.zero_le _) rfl (fun _ _ => ?_)
  refine zv_to Cx rfl rfl (ws' := wD K A O L q W P R C M) rfl ?_
  refine zv_go Cx okX8_mu [] 20 ?_
  refine ⟨fun h1 => ?_, fun h1 => ⟨rfl, ?_⟩⟩
  · rw [bI_0, hasb_nI (by omega) (by omega), decide_eq_false_iff_not] at h1; exact absurd hi h1
  refine zv_callV Cx (c_has K (A 1) (A 2) (A 3) O.1 O.2.1 O.2.2.1 O.2.2.2 (nI j)) (zw_V inX4_has kX8_69 ⟨by show 0 + 1 ≤ 4; omega, by show 8 + (2 + 11) + 0 ≤ 124; omega⟩) [1, 2, 3] 1 rfl rfl rfl rfl (fun _ => Nat.le_refl _) rfl rfl (by decide) dzX8_mu_16 (Nat.zero_le _) (Nat.zero_le _) rfl (fun _ _ => ?_)
  refine zv_to Cx rfl rfl (ws' := wD K A O L q W P R C M) rfl ?_
  refine zv_go Cx okX8_mu [] 6 ?_
  refine ⟨fun h1 => ⟨rfl, ?_⟩, fun h1 => ?_⟩
  rotate_left
  · rw [bI_0, hasb_nI (by omega) (by omega), decide_eq_false_iff_not] at h1; exact absurd hj h1
  refine zv_callV Cx (c_upFrom K (A 1) (A 2) (A 3) O.1 O.2.1 O.2.2.1 O.2.2.2 (i := i) (by omega)) (zw_V inX4_upFrom kX8_147 ⟨by show 0 + 1 ≤ 4; omega, by show 8 + (2 + 11) + 0 ≤ 124; omega⟩) [1, 2, 3] 1 rfl rfl rfl rfl (fun _ => Nat.le_refl _) rfl rfl (by decide) dzX8_mu_29 (Nat.zero_le _) (Nat.zero_le _) rfl (fun _ _ => ?_)
  refine zv_to Cx rfl rfl (ws' := wD K A O L q W P R C M) rfl ?_
  refine zv_go Cx okX8_mu [] 3 ?_
  refine ⟨rfl, ?_⟩
  refine zv_callV Cx (c_downFrom K (A 1) (A 2) (A 3) O.1 O.2.1 O.2.2.1 O.2.2.2 (i := j) (by omega)) (zw_V inX4_downFrom kX8_150 ⟨by show 0 + 1 ≤ 4; omega, by show 8 + (2 + 11) + 0 ≤ 124; omega⟩) [1, 2, 3] 1 rfl rfl rfl rfl (fun _ => Nat.le_refl _) (rest := [.int (nI (O.2.1 i ||| 2 ^ i))]) rfl rfl (Nat.le_of_ble_eq_true rfl) dzX8_mu_37 (Nat.zero_le _) (Nat.zero_le _) rfl (fun _ _ => ?_)
  refine zv_to Cx rfl rfl (ws' := wD K A O L q W P R C M) rfl ?_
  refine zv_go Cx okX8_mu [] 4 ?_
  refine ⟨rfl, ?_⟩
  refine zv_callV Cx (c_clear K (A 17) (A 18) (A 19) M.1 M.2.1 M.2.2.1 M.2.2.2) (zw_V inX3_clear kX8_153 ⟨by show 0 + 1 ≤ 4; omega, by show 8 + (1 + 11) + 0 ≤ 124; omega⟩) [17, 18, 19] 17 rfl rfl rfl rfl (fun _ => Nat.le_refl _) rfl rfl (by decide) dzX8_mu_46 (Nat.zero_le _) (Nat.zero_le _) rfl (fun _ _ => ?_)
  refine zv_to Cx (lv' := [(0, .ref (A 0)), (1, .int (nI i)), (2, .int (nI j)), (3, .int (nI bt))]) (by rw [hbt, ← nb_and] <;> rfl) rfl (ws' := wD K A O L q W P R C (M.1, M.2.1, M.2.2.1, nI 0)) rfl ?_
  have loop : ∀ mm k (s t : Nat) (sf mf : Nat → Int32), k + mm = O.2.2.1 → (∀ v, v < (mqS O.1 bt k).2 → sf v = nI ((mqS O.1 bt k).1 v)) → zv_V x (gz K (zqM 4 M.2.2.1 (mqS O.1 bt O.2.2.1).2 124) 5 cX8_mu yX8_mu.cls) 52 [(0, .ref (A 0)), (1, .int (nI i)), (2, .int (nI j)), (3, .int (nI bt)), (4, .int (nI k))] [] (wD K (va_up (va_up A 18 s) 19 t) O L q W P R C (sf, mf, capA M.2.2.1 (mqS O.1 bt k).2, nI (mqS O.1 bt k).2)) (2 * (capA M.2.2.1 (mqS O.1 bt k).2 - M.2.2.1)) (4 * (capA M.2.2.1 (mqS O.1 bt k).2 - M.2.2.1)) := by
    intro mm
    induction mm with
    | zero =>
      intro k s t sf mf hk hsf
      have e1 : k = O.2.2.1 := by omega
      subst e1
      refine zv_go Cx okX8_mu [] 20 ?_
      refine ⟨rfl, rfl, fun _ => ⟨rfl, ?_⟩, fun h => absurd (nI_le (Nat.le_refl _) (by omega)) h⟩
      refine zv_callV Cx (c_ofFirst K (A 17) s t sf mf (capA M.2.2.1 (mqS O.1 bt O.2.2.1).2) (mqS O.1 bt O.2.2.1).2 (mqS O.1 bt O.2.2.1).1 hcf.1 hcf.2.1 (by omega) (fun v hv => ⟨hsf v hv, hfin.2 v hv⟩)) (zw_V inX3_ofFirstWithLast kX8_159 ⟨by show 2 + 1 ≤ 4; omega, by show 8 + (2 + 11) + 44 ≤ 124; omega⟩) [17, 18, 19] 17 rfl rfl rfl rfl (fun _ => Nat.le_refl _) rfl rfl (by decide) dzX8_mu_99 (Nat.le_refl _) (Nat.le_refl _) rfl (fun u _ => ?_)
      exact zr Rx (s, t, sf, u) (List.range 20) (some (.int _)) _ rfl rfl trivial rfl rfl (Nat.le_refl _) (Nat.le_refl _) dzX8_mu_102
    | succ mm ih =>
      intro k s t sf mf hk hsf
      have hok := mqS_ok (bt := bt) hb k (by omega)
      have hck := capA_ok h0 hcap (mqS O.1 bt k).2 (by omega)
      refine zv_go Cx okX8_mu [52] 20 ?_
      refine ⟨rfl, rfl, fun h => absurd h (nI_ge (by omega) (by omega)), fun _ => ⟨fun h => ?_, fun h => ⟨rfl, rfl, ?_⟩⟩⟩
      · rw [nb_t0 (by omega) (by omega)] at h
        have e2 : mqS O.1 bt (k + 1) = mqS O.1 bt k := by rw [mqS, if_neg (by rw [h]; decide)]
        have hih := ih (k + 1) s t sf mf (by omega) (by rw [e2]; exact hsf)
        rw [e2] at hih
        exact zv_to Cx (lv' := [(0, .ref (A 0)), (1, .int (nI i)), (2, .int (nI j)), (3, .int (nI bt)), (4, .int (nI (k + 1)))]) (by rw [← nI_1] <;> rfl) rfl rfl hih
      · rw [nb_t1 (by omega) (by omega)] at h
        have e2 : mqS O.1 bt (k + 1) = (muI (mqS O.1 bt k).1 (O.1 k ||| 2 ^ k) (mqS O.1 bt k).2, (mqS O.1 bt k).2 + 1) := by rw [mqS, if_pos h]
        have hmo := mqS_mono (bl := O.1) (bt := bt) (k := k + 1) (n := O.2.2.1) (by omega)
        have hca : capA M.2.2.1 ((mqS O.1 bt k).2 + 1) ≤ capA M.2.2.1 (mqS O.1 bt O.2.2.1).2 := capA_mono _ (by rw [e2] at hmo; exact hmo)
        have hc0 : M.2.2.1 ≤ capA M.2.2.1 (mqS O.1 bt k).2 := capA_mono M.2.2.1 (Nat.zero_le _)
        have hc1 : capA M.2.2.1 ((mqS O.1 bt k).2 + 1) = capN (capA M.2.2.1 (mqS O.1 bt k).2) (mqS O.1 bt k).2 := rfl
        have hc2 := capN_le (capA M.2.2.1 (mqS O.1 bt k).2) (mqS O.1 bt k).2
        refine zv_callV Cx (c_downFrom K (A 1) (A 2) (A 3) O.1 O.2.1 O.2.2.1 O.2.2.2 (i := k) (by omega)) (zw_V inX4_downFrom kX8_150 ⟨by show 0 + 1 ≤ 4; omega, by show 8 + (2 + 11) + 0 ≤ 124; omega⟩) [1, 2, 3] 1 rfl rfl rfl rfl (fun _ => Nat.le_refl _) (rest := [.ref (A 17)]) rfl rfl (Nat.le_of_ble_eq_true rfl) dzX8_mu_83 ?_ ?_ rfl (fun _ _ => ?_)
        · show 2 * (capA M.2.2.1 (mqS O.1 bt k).2 - M.2.2.1) + 0 ≤ 2 * (capA M.2.2.1 (mqS O.1 bt O.2.2.1).2 - M.2.2.1)
          omega
        · show 4 * (capA M.2.2.1 (mqS O.1 bt k).2 - M.2.2.1) + 0 ≤ 4 * (capA M.2.2.1 (mqS O.1 bt O.2.2.1).2 - M.2.2.1)
          omega
        refine zv_to Cx rfl rfl (ws' := wD K (va_up (va_up A 18 s) 19 t) O L q W P R C (sf, mf, capA M.2.2.1 (mqS O.1 bt k).2, nI (mqS O.1 bt k).2)) rfl ?_
        refine zv_callV Cx (c_muAdd K (A 17) s t sf mf (capA M.2.2.1 (mqS O.1 bt k).2) (mqS O.1 bt k).2 (mqS O.1 bt k).1 (O.1 k ||| 2 ^ k) hck.2.1 hck.1 (by omega) (by omega) (fun v hv => ⟨hsf v hv, hok.2 v hv⟩) (nb_lt_or (hb k) (nb_lt_pow (by omega)))) (zw_V inX3_add kX8_156 ⟨by show 3 + 1 ≤ 4; omega, by show 8 + (3 + 11) + 102 ≤ 124; omega⟩) [17, 18, 19] 17 rfl rfl rfl rfl (fun _ => Nat.le_refl _) rfl rfl (by decide) dzX8_mu_86 ?_ ?_ rfl (fun u hu => ?_)
        · show 2 * (capA M.2.2.1 (mqS O.1 bt k).2 - M.2.2.1) + 0 + 2 * (capN (capA M.2.2.1 (mqS O.1 bt k).2) (mqS O.1 bt k).2 - capA M.2.2.1 (mqS O.1 bt k).2) ≤ 2 * (capA M.2.2.1 (mqS O.1 bt O.2.2.1).2 - M.2.2.1)
          omega
        · show 4 * (capA M.2.2.1 (mqS O.1 bt k).2 - M.2.2.1) + 0 + 4 * (capN (capA M.2.2.1 (mqS O.1 bt k).2) (mqS O.1 bt k).2 - capA M.2.2.1 (mqS O.1 bt k).2) ≤ 4 * (capA M.2.2.1 (mqS O.1 bt O.2.2.1).2 - M.2.2.1)
          omega
        refine zv_go Cx okX8_mu [52] 20 ?_
        have hih := ih (k + 1) u.1 u.2.1 u.2.2.1 u.2.2.2 (by omega) (by rw [e2]; exact hu)
        rw [e2] at hih
        refine zv_wide Cx (ce' := 2 * (capA M.2.2.1 ((mqS O.1 bt k).2 + 1) - M.2.2.1)) (sl' := 4 * (capA M.2.2.1 ((mqS O.1 bt k).2 + 1) - M.2.2.1)) ?_ ?_ (zv_to Cx (lv' := [(0, .ref (A 0)), (1, .int (nI i)), (2, .int (nI j)), (3, .int (nI bt)), (4, .int (nI (k + 1)))]) (by rw [← nI_1] <;> rfl) rfl (ws' := wD K (va_up (va_up A 18 u.1) 19 u.2.1) O L q W P R C (u.2.2.1, u.2.2.2, capA M.2.2.1 ((mqS O.1 bt k).2 + 1), nI ((mqS O.1 bt k).2 + 1))) rfl hih)
        · show 2 * (capA M.2.2.1 (mqS O.1 bt k).2 - M.2.2.1) + 0 + 2 * (capN (capA M.2.2.1 (mqS O.1 bt k).2) (mqS O.1 bt k).2 - capA M.2.2.1 (mqS O.1 bt k).2) ≤ 2 * (capA M.2.2.1 ((mqS O.1 bt k).2 + 1) - M.2.2.1)
          omega
        · show 4 * (capA M.2.2.1 (mqS O.1 bt k).2 - M.2.2.1) + 0 + 4 * (capN (capA M.2.2.1 (mqS O.1 bt k).2) (mqS O.1 bt k).2 - capA M.2.2.1 (mqS O.1 bt k).2) ≤ 4 * (capA M.2.2.1 ((mqS O.1 bt k).2 + 1) - M.2.2.1)
          omega
  refine zv_go Cx okX8_mu [52] 20 ?_
  refine zv_wide Cx (ce' := 2 * (capA M.2.2.1 (mqS O.1 bt 0).2 - M.2.2.1)) (sl' := 4 * (capA M.2.2.1 (mqS O.1 bt 0).2 - M.2.2.1)) (Nat.zero_le _) (Nat.zero_le _) ?_
  exact zv_to Cx rfl rfl rfl (loop O.2.2.1 0 (A 18) (A 19) M.1 M.2.1 (by omega) (fun v hv => absurd hv (Nat.not_lt_zero _)))
end ZH
