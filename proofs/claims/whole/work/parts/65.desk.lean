/-! THE DESK: its world, the calls on the order -/
abbrev dO : Type := (Nat → Nat) × (Nat → Nat) × Nat × Int32
abbrev dL : Type := (Nat → Int32) × (Nat → Int32) × Int32 × Int32
abbrev dW : Type := Int32 × Int32
abbrev dP : Type := (Nat → Int32) × Int32
abbrev dR : Type := (Nat → Int64) × (Nat → Int64) × Nat × Int32 × Int32 × Int32
abbrev dC : Type := (Nat → Int32) × Nat × Int32 × Int32
abbrev dM : Type := (Nat → Int32) × (Nat → Int32) × Nat × Int32
abbrev wD (K : zK) (A : Nat → Nat) (O : dO) (L : dL) (q : zS) (W : dW) (P : dP) (R : dR) (C : dC) (M : dM) : va_W :=
  [(A 0, .inr (8, [.ref (A 1), .ref (A 4), .ref (A 9), .ref (A 10), .ref (A 12), .ref (A 15), .ref (A 17)])),
   (A 1, .inr (4, [.ref (A 2), .ref (A 3), .int (nI O.2.2.1), .int O.2.2.2])), (A 2, .inl (cI K, 14, .inl (fun j => nI (O.1 j)))), (A 3, .inl (cI K, 14, .inl (fun j => nI (O.2.1 j)))),
   (A 4, .inr (1, [.ref (A 1), .ref (A 5), .ref (A 6), .int L.2.2.1, .int L.2.2.2])), (A 5, .inl (cI K, 14, .inl L.1)), (A 6, .inl (cI K, 14, .inl L.2.1)),
   (A 7, .inr (2, [.ref (A 1), .ref (A 8), .int q.2.1, .int q.2.2])), (A 8, .inl (cI K, 14, .inl q.1)),
   (A 9, .inr (7, [.ref (A 1), .ref (A 7), .int W.1, .int W.2])),
   (A 10, .inr (5, [.ref (A 1), .ref (A 7), .ref (A 11), .int P.2])), (A 11, .inl (cI K, 14, .inl P.1)),
   (A 12, .inr (6, [.ref (A 1), .ref (A 13), .ref (A 14), .int R.2.2.2.1, .int R.2.2.2.2.1, .int R.2.2.2.2.2])), (A 13, .inl (cJ K, R.2.2.1, .inr (.inl R.1))), (A 14, .inl (cJ K, R.2.2.1, .inr (.inl R.2.1))),
   (A 15, .inr (0, [.ref (A 1), .ref (A 16), .int C.2.2.1, .int C.2.2.2])), (A 16, .inl (cI K, C.2.1, .inl C.1)),
   (A 17, .inr (3, [.ref (A 18), .ref (A 19), .int M.2.2.2])), (A 18, .inl (cI K, M.2.2.1, .inl M.1)), (A 19, .inl (cI K, M.2.2.1, .inl M.2.1))]
theorem hasb_ex {n : Nat} {v : Int32} (hn : n < 2 ^ 31) (h : hasb n v = true) : ∃ j, j < n ∧ v = nI j := by
  have h := of_decide_eq_true h
  obtain ⟨j, hj, e, -⟩ := pk_mu (Int32.not_lt.mpr h.1) (Int32.not_le.mpr h.2) hn
  exact ⟨j, hj, e⟩
section ZD
variable (K : zK) (A : Nat → Nat) (O : dO) (L : dL) (q : zS) (W : dW) (P : dP) (R : dR) (C : dC) (M : dM)
set_option maxHeartbeats 4000000 in
set_option maxRecDepth 100000 in
theorem d_begin_no (k : Int32) (h : k < 1 ∨ 14 < k) : zD K yX8_begin cX8_begin 2 (some .int) (zq 1 0 0 22) [.ref (A 0), .int k] (wD K A O L q W P R C M) (some (.int (-1))) (wD K A O L q W P R C M) := by
  refine zo (by decide) (Nat.le_of_ble_eq_true rfl) fun x Cx Rx _ => ?_
  refine zv_go Cx okX8_begin [] 20 ?_
  refine ⟨fun h1 => ?_, fun h1 => ⟨fun h2 => ?_, fun h2 => ?_⟩⟩
  · exact zr Rx () (List.range 20) (some (.int (-1))) _ rfl rfl trivial rfl rfl (Nat.zero_le _) (Nat.zero_le _) dzX8_begin_12
  · exact absurd h (fun z => z.elim h1 (fun w => absurd h2 (Int32.not_le.mpr w)))
  · exact zr Rx () (List.range 20) (some (.int (-1))) _ rfl rfl trivial rfl rfl (Nat.zero_le _) (Nat.zero_le _) dzX8_begin_12
set_option maxHeartbeats 4000000 in
set_option maxRecDepth 100000 in
theorem d_begin (t : Nat) (h1 : 1 ≤ t) (h2 : t ≤ 14) : zD K yX8_begin cX8_begin 2 (some .int) (zq 1 0 0 22) [.ref (A 0), .int (nI t)] (wD K A O L q W P R C M) (some (.int (nI t))) (wD K A (fun _ => 0, fun _ => 0, t, O.2.2.2 + 1) L q W P R C M) := by
  refine zo (by decide) (Nat.le_of_ble_eq_true rfl) fun x Cx Rx _ => ?_
  refine zv_go Cx okX8_begin [] 20 ?_
  refine ⟨fun h => absurd h (nI_nlt (b := 1) (by omega) (by omega)), fun _ => ⟨fun _ => ⟨rfl, ?_⟩, fun h => absurd (nI_le (b := 14) h2 (by decide)) h⟩⟩
  refine zv_callV Cx (c_startWith K (A 1) (A 2) (A 3) O.1 O.2.1 O.2.2.1 t O.2.2.2) (zw_V inX4_startWith kX8_65 ⟨by decide, by decide⟩) [1, 2, 3] 1 rfl rfl rfl rfl (fun _ => Nat.le_refl _) rfl rfl (by decide) dzX8_begin_18 (by decide) (by decide) rfl (fun _ _ => ?_)
  refine zv_go Cx okX8_begin [] 20 ?_
  exact zr Rx () (List.range 20) (some (.int _)) _ rfl rfl trivial rfl rfl (Nat.zero_le _) (Nat.zero_le _) dzX8_begin_22
set_option maxHeartbeats 4000000 in
set_option maxRecDepth 100000 in
theorem d_free_no (a : Int32) (h : hasb O.2.2.1 a = false) : zD K yX8_free cX8_free 2 (some .int) (zq 2 0 0 45) [.ref (A 0), .int a] (wD K A O L q W P R C M) (some (.int (-1))) (wD K A O L q W P R C M) := by
  refine zo (by decide) (Nat.le_of_ble_eq_true rfl) fun x Cx Rx _ => ?_
  refine zv_go Cx okX8_free [] 3 ?_
  refine ⟨rfl, ?_⟩
  refine zv_callV Cx (c_has K (A 1) (A 2) (A 3) O.1 O.2.1 O.2.2.1 O.2.2.2 a) (zw_V inX4_has kX8_69 ⟨by decide, by decide⟩) [1, 2, 3] 1 rfl rfl rfl rfl (fun _ => Nat.le_refl _) rfl rfl (by decide) dzX8_free_5 (by decide) (by decide) rfl (fun _ _ => ?_)
  refine zv_to Cx rfl rfl (ws' := (wD K A O L q W P R C M)) rfl ?_
  refine zv_go Cx okX8_free [] 20 ?_
  refine ⟨fun h1 => ?_, fun h1 => ?_⟩
  · exact zr Rx () (List.range 20) (some (.int (-1))) _ rfl rfl trivial rfl rfl (Nat.zero_le _) (Nat.zero_le _) dzX8_free_23
  · rw [bI_1, h] at h1; cases h1
set_option maxHeartbeats 4000000 in
set_option maxRecDepth 100000 in
theorem d_free {v : Nat} (hv2 : v < O.2.2.1) (hv : v < 14) (hn : O.2.2.1 ≤ 14) (hb : ∀ j, O.1 j < 2 ^ 14) (ha : ∀ j, O.2.1 j < 2 ^ 14) : zD K yX8_free cX8_free 2 (some .int) (zq 2 0 0 45) [.ref (A 0), .int (nI v)] (wD K A O L q W P R C M) (some (.int (nI (npc 14 (O.1 v) + npc 14 (O.2.1 v))))) (wD K A (va_up (ocut v O.1 O.2.2.1) v 0, va_up (ocut v O.2.1 O.2.2.1) v 0, O.2.2.1, if nI (npc 14 (O.1 v) + npc 14 (O.2.1 v)) = 0 then O.2.2.2 else O.2.2.2 + 1) L q W P R C M) := by
  refine zo (by decide) (Nat.le_of_ble_eq_true rfl) fun x Cx Rx _ => ?_
  refine zv_go Cx okX8_free [] 3 ?_
  refine ⟨rfl, ?_⟩
  refine zv_callV Cx (c_has K (A 1) (A 2) (A 3) O.1 O.2.1 O.2.2.1 O.2.2.2 (nI v)) (zw_V inX4_has kX8_69 ⟨by decide, by decide⟩) [1, 2, 3] 1 rfl rfl rfl rfl (fun _ => Nat.le_refl _) rfl rfl (by decide) dzX8_free_5 (by decide) (by decide) rfl (fun _ _ => ?_)
  refine zv_to Cx rfl rfl (ws' := (wD K A O L q W P R C M)) rfl ?_
  refine zv_go Cx okX8_free [] 20 ?_
  refine ⟨fun h1 => ?_, fun h1 => ⟨rfl, ?_⟩⟩
  · rw [bI_0, hasb_nI (by omega) (by omega), decide_eq_false_iff_not] at h1; exact absurd hv2 h1
  refine zv_callV Cx (c_untie K (A 1) (A 2) (A 3) O.1 O.2.1 O.2.2.1 O.2.2.2 hv hn hb ha) (zw_V inX4_untie kX8_81 ⟨by decide, by decide⟩) [1, 2, 3] 1 rfl rfl rfl rfl (fun _ => Nat.le_refl _) rfl rfl (by decide) dzX8_free_16 (by decide) (by decide) rfl (fun _ _ => ?_)
  refine zv_go Cx okX8_free [] 20 ?_
  exact zr Rx () (List.range 20) (some (.int _)) _ rfl rfl trivial rfl rfl (Nat.zero_le _) (Nat.zero_le _) dzX8_free_23
set_option maxHeartbeats 4000000 in
set_option maxRecDepth 100000 in
theorem d_covers_no (a : Int32) (h : hasb O.2.2.1 a = false) : zD K yX8_covers cX8_covers 2 (some .int) (zq 2 0 0 45) [.ref (A 0), .int a] (wD K A O L q W P R C M) (some (.int (-1))) (wD K A O L q W P R C M) := by
  refine zo (by decide) (Nat.le_of_ble_eq_true rfl) fun x Cx Rx _ => ?_
  refine zv_go Cx okX8_covers [] 3 ?_
  refine ⟨rfl, ?_⟩
  refine zv_callV Cx (c_has K (A 1) (A 2) (A 3) O.1 O.2.1 O.2.2.1 O.2.2.2 a) (zw_V inX4_has kX8_69 ⟨by decide, by decide⟩) [1, 2, 3] 1 rfl rfl rfl rfl (fun _ => Nat.le_refl _) rfl rfl (by decide) dzX8_covers_5 (by decide) (by decide) rfl (fun _ _ => ?_)
  refine zv_to Cx rfl rfl (ws' := (wD K A O L q W P R C M)) rfl ?_
  refine zv_go Cx okX8_covers [] 20 ?_
  refine ⟨fun h1 => ?_, fun h1 => ?_⟩
  · exact zr Rx () (List.range 20) (some (.int (-1))) _ rfl rfl trivial rfl rfl (Nat.zero_le _) (Nat.zero_le _) dzX8_covers_23
  · rw [bI_1, h] at h1; cases h1
set_option maxHeartbeats 4000000 in
set_option maxRecDepth 100000 in
theorem d_covers {v : Nat} (hv2 : v < O.2.2.1) (hv : v < 14) (hn : O.2.2.1 ≤ 14) (hb : ∀ j, O.1 j < 2 ^ 14) (ha : ∀ j, O.2.1 j < 2 ^ 14) : zD K yX8_covers cX8_covers 2 (some .int) (zq 2 0 0 45) [.ref (A 0), .int (nI v)] (wD K A O L q W P R C M) (some (.int (nI (ocov O.2.1 v O.2.2.1)))) (wD K A O L q W P R C M) := by
  refine zo (by decide) (Nat.le_of_ble_eq_true rfl) fun x Cx Rx _ => ?_
  refine zv_go Cx okX8_covers [] 3 ?_
  refine ⟨rfl, ?_⟩
  refine zv_callV Cx (c_has K (A 1) (A 2) (A 3) O.1 O.2.1 O.2.2.1 O.2.2.2 (nI v)) (zw_V inX4_has kX8_69 ⟨by decide, by decide⟩) [1, 2, 3] 1 rfl rfl rfl rfl (fun _ => Nat.le_refl _) rfl rfl (by decide) dzX8_covers_5 (by decide) (by decide) rfl (fun _ _ => ?_)
  refine zv_to Cx rfl rfl (ws' := (wD K A O L q W P R C M)) rfl ?_
  refine zv_go Cx okX8_covers [] 20 ?_
  refine ⟨fun h1 => ?_, fun h1 => ⟨rfl, ?_⟩⟩
  · rw [bI_0, hasb_nI (by omega) (by omega), decide_eq_false_iff_not] at h1; exact absurd hv2 h1
  refine zv_callV Cx (c_coversOf K (A 1) (A 2) (A 3) O.1 O.2.1 O.2.2.1 O.2.2.2 hv hn ha) (zw_V inX4_coversOf kX8_85 ⟨by decide, by decide⟩) [1, 2, 3] 1 rfl rfl rfl rfl (fun _ => Nat.le_refl _) rfl rfl (by decide) dzX8_covers_16 (by decide) (by decide) rfl (fun _ _ => ?_)
  refine zv_go Cx okX8_covers [] 20 ?_
  exact zr Rx () (List.range 20) (some (.int _)) _ rfl rfl trivial rfl rfl (Nat.zero_le _) (Nat.zero_le _) dzX8_covers_23
set_option maxHeartbeats 4000000 in
set_option maxRecDepth 100000 in
theorem d_isBelow_no (a b : Int32) (h : hasb O.2.2.1 a = false ∨ hasb O.2.2.1 b = false) : zD K yX8_isBelow cX8_isBelow 3 (some .boolean) (zq 1 0 0 22) [.ref (A 0), .int a, .int b] (wD K A O L q W P R C M) (some (.int 0)) (wD K A O L q W P R C M) := by
  refine zo (by decide) (Nat.le_of_ble_eq_true rfl) fun x Cx Rx _ => ?_
  refine zv_go Cx okX8_isBelow [] 3 ?_
  refine ⟨rfl, ?_⟩
  refine zv_callV Cx (c_has K (A 1) (A 2) (A 3) O.1 O.2.1 O.2.2.1 O.2.2.2 a) (zw_V inX4_has kX8_69 ⟨by decide, by decide⟩) [1, 2, 3] 1 rfl rfl rfl rfl (fun _ => Nat.le_refl _) rfl rfl (by decide) dzX8_isBelow_5 (by decide) (by decide) rfl (fun _ _ => ?_)
  refine zv_to Cx rfl rfl (ws' := (wD K A O L q W P R C M)) rfl ?_
  refine zv_go Cx okX8_isBelow [] 20 ?_
  refine ⟨fun h1 => ?_, fun h1 => ⟨rfl, ?_⟩⟩
  · exact zr Rx () (List.range 20) (some (.int 0)) _ rfl rfl trivial rfl rfl (Nat.zero_le _) (Nat.zero_le _) ⟨rfl, dzX8_isBelow_39⟩
  refine zv_callV Cx (c_has K (A 1) (A 2) (A 3) O.1 O.2.1 O.2.2.1 O.2.2.2 b) (zw_V inX4_has kX8_69 ⟨by decide, by decide⟩) [1, 2, 3] 1 rfl rfl rfl rfl (fun _ => Nat.le_refl _) rfl rfl (by decide) dzX8_isBelow_16 (by decide) (by decide) rfl (fun _ _ => ?_)
  refine zv_to Cx rfl rfl (ws' := (wD K A O L q W P R C M)) rfl ?_
  refine zv_go Cx okX8_isBelow [] 20 ?_
  refine ⟨fun h2 => ?_, fun h2 => ⟨rfl, ?_⟩⟩
  · exact zr Rx () (List.range 20) (some (.int 0)) _ rfl rfl trivial rfl rfl (Nat.zero_le _) (Nat.zero_le _) ⟨rfl, dzX8_isBelow_39⟩
  rw [bI_1] at h1 h2
  rcases h with h | h
  · rw [h] at h1; cases h1
  · rw [h] at h2; cases h2
set_option maxHeartbeats 4000000 in
set_option maxRecDepth 100000 in
theorem d_isBelow {i j : Nat} (hi : i < O.2.2.1) (hj : j < O.2.2.1) (hn : O.2.2.1 ≤ 14) (ha : ∀ j, O.2.1 j < 2 ^ 14) : zD K yX8_isBelow cX8_isBelow 3 (some .boolean) (zq 1 0 0 22) [.ref (A 0), .int (nI i), .int (nI j)] (wD K A O L q W P R C M) (some (.int (bI ((O.2.1 i).testBit j)))) (wD K A O L q W P R C M) := by
  refine zo (by decide) (Nat.le_of_ble_eq_true rfl) fun x Cx Rx _ => ?_
  refine zv_go Cx okX8_isBelow [] 3 ?_
  refine ⟨rfl, ?_⟩
  refine zv_callV Cx (c_has K (A 1) (A 2) (A 3) O.1 O.2.1 O.2.2.1 O.2.2.2 (nI i)) (zw_V inX4_has kX8_69 ⟨by decide, by decide⟩) [1, 2, 3] 1 rfl rfl rfl rfl (fun _ => Nat.le_refl _) rfl rfl (by decide) dzX8_isBelow_5 (by decide) (by decide) rfl (fun _ _ => ?_)
  refine zv_to Cx rfl rfl (ws' := (wD K A O L q W P R C M)) rfl ?_
  refine zv_go Cx okX8_isBelow [] 20 ?_
  refine ⟨fun h1 => ?_, fun h1 => ⟨rfl, ?_⟩⟩
  · rw [bI_0, hasb_nI (by omega) (by omega), decide_eq_false_iff_not] at h1; exact absurd hi h1
  refine zv_callV Cx (c_has K (A 1) (A 2) (A 3) O.1 O.2.1 O.2.2.1 O.2.2.2 (nI j)) (zw_V inX4_has kX8_69 ⟨by decide, by decide⟩) [1, 2, 3] 1 rfl rfl rfl rfl (fun _ => Nat.le_refl _) rfl rfl (by decide) dzX8_isBelow_16 (by decide) (by decide) rfl (fun _ _ => ?_)
  refine zv_to Cx rfl rfl (ws' := (wD K A O L q W P R C M)) rfl ?_
  refine zv_go Cx okX8_isBelow [] 20 ?_
  refine ⟨fun h1 => ?_, fun h1 => ⟨rfl, ?_⟩⟩
  · rw [bI_0, hasb_nI (by omega) (by omega), decide_eq_false_iff_not] at h1; exact absurd hj h1
  refine zv_callV Cx (c_under K (A 1) (A 2) (A 3) O.1 O.2.1 O.2.2.1 O.2.2.2 (i := i) (j := j) (by omega) (by omega) (Nat.lt_trans (ha i) (by decide))) (zw_V inX4_under kX8_73 ⟨by decide, by decide⟩) [1, 2, 3] 1 rfl rfl rfl rfl (fun _ => Nat.le_refl _) rfl rfl (by decide) dzX8_isBelow_28 (by decide) (by decide) rfl (fun _ _ => ?_)
  refine zv_to Cx rfl rfl (ws' := (wD K A O L q W P R C M)) rfl ?_
  refine zv_go Cx okX8_isBelow [] 20 ?_
  refine ⟨fun h1 => ?_, fun h1 => ?_⟩
  · rw [bI_0] at h1
    exact zr Rx () (List.range 20) (some (.int 0)) _ (by rw [h1] <;> rfl) rfl trivial rfl rfl (Nat.zero_le _) (Nat.zero_le _) ⟨rfl, dzX8_isBelow_39⟩
  · rw [bI_1] at h1
    exact zr Rx () (List.range 20) (some (.int 1)) _ (by rw [h1] <;> rfl) rfl trivial rfl rfl (Nat.zero_le _) (Nat.zero_le _) ⟨rfl, dzX8_isBelow_39⟩
set_option maxHeartbeats 4000000 in
set_option maxRecDepth 100000 in
theorem d_put_no (a b : Int32) (h : hasb O.2.2.1 a = false ∨ hasb O.2.2.1 b = false ∨ a = b ∨ ∃ i j, i < O.2.2.1 ∧ j < O.2.2.1 ∧ a = nI i ∧ b = nI j ∧ (O.2.1 j).testBit i = true) (hn : O.2.2.1 ≤ 14) (ha : ∀ j, O.2.1 j < 2 ^ 14) : zD K yX8_put cX8_put 3 (some .int) (zq 2 0 0 47) [.ref (A 0), .int a, .int b] (wD K A O L q W P R C M) (some (.int (-1))) (wD K A O L q W P R C M) := by
  refine zo (by decide) (Nat.le_of_ble_eq_true rfl) fun x Cx Rx _ => ?_
  refine zv_go Cx okX8_put [] 3 ?_
  refine ⟨rfl, ?_⟩
  refine zv_callV Cx (c_has K (A 1) (A 2) (A 3) O.1 O.2.1 O.2.2.1 O.2.2.2 a) (zw_V inX4_has kX8_69 ⟨by decide, by decide⟩) [1, 2, 3] 1 rfl rfl rfl rfl (fun _ => Nat.le_refl _) rfl rfl (by decide) dzX8_put_5 (by decide) (by decide) rfl (fun _ _ => ?_)
  refine zv_to Cx rfl rfl (ws' := (wD K A O L q W P R C M)) rfl ?_
  refine zv_go Cx okX8_put [] 20 ?_
  refine ⟨fun h1 => ?_, fun h1 => ⟨rfl, ?_⟩⟩
  · exact zr Rx () (List.range 20) (some (.int (-1))) _ rfl rfl trivial rfl rfl (Nat.zero_le _) (Nat.zero_le _) dzX8_put_40
  rw [bI_1] at h1
  refine zv_callV Cx (c_has K (A 1) (A 2) (A 3) O.1 O.2.1 O.2.2.1 O.2.2.2 b) (zw_V inX4_has kX8_69 ⟨by decide, by decide⟩) [1, 2, 3] 1 rfl rfl rfl rfl (fun _ => Nat.le_refl _) rfl rfl (by decide) dzX8_put_16 (by decide) (by decide) rfl (fun _ _ => ?_)
  refine zv_to Cx rfl rfl (ws' := (wD K A O L q W P R C M)) rfl ?_
  refine zv_go Cx okX8_put [] 20 ?_
  refine ⟨fun h2 => ?_, fun h2 => ⟨fun h3 => ?_, fun h3 => ⟨rfl, ?_⟩⟩⟩
  · exact zr Rx () (List.range 20) (some (.int (-1))) _ rfl rfl trivial rfl rfl (Nat.zero_le _) (Nat.zero_le _) dzX8_put_40
  · exact zr Rx () (List.range 20) (some (.int (-1))) _ rfl rfl trivial rfl rfl (Nat.zero_le _) (Nat.zero_le _) dzX8_put_40
  rw [bI_1] at h2
  rcases h with h | h | h | ⟨i, j, hi, hj, rfl, rfl, h⟩
  · rw [h] at h1; cases h1
  · rw [h] at h2; cases h2
  · exact absurd h h3
  · refine zv_callV Cx (c_under K (A 1) (A 2) (A 3) O.1 O.2.1 O.2.2.1 O.2.2.2 (i := j) (j := i) (by omega) (by omega) (Nat.lt_trans (ha j) (by decide))) (zw_V inX4_under kX8_73 ⟨by decide, by decide⟩) [1, 2, 3] 1 rfl rfl rfl rfl (fun _ => Nat.le_refl _) rfl rfl (by decide) dzX8_put_33 (by decide) (by decide) rfl (fun _ _ => ?_)
    refine zv_to Cx rfl rfl (ws' := (wD K A O L q W P R C M)) rfl ?_
    refine zv_go Cx okX8_put [] 20 ?_
    refine ⟨fun h4 => ?_, fun h4 => ?_⟩
    · rw [bI_0, h] at h4; cases h4
    · exact zr Rx () (List.range 20) (some (.int (-1))) _ rfl rfl trivial rfl rfl (Nat.zero_le _) (Nat.zero_le _) dzX8_put_40
set_option maxHeartbeats 4000000 in
set_option maxRecDepth 100000 in
theorem d_put {i j : Nat} (hi : i < O.2.2.1) (hj : j < O.2.2.1) (hn : O.2.2.1 ≤ 14) (hij : i ≠ j) (hno : (O.2.1 j).testBit i = false) (hb : ∀ j, O.1 j < 2 ^ 14) (ha : ∀ j, O.2.1 j < 2 ^ 14) : zD K yX8_put cX8_put 3 (some .int) (zq 2 0 0 47) [.ref (A 0), .int (nI i), .int (nI j)] (wD K A O L q W P R C M) (some (.int (nI (ocame (O.1 i ||| 2 ^ i) (O.2.1 j ||| 2 ^ j) O.2.1 O.2.2.1)))) (wD K A (orow (O.2.1 j ||| 2 ^ j) (O.1 i ||| 2 ^ i) O.1 O.2.2.1, orow (O.1 i ||| 2 ^ i) (O.2.1 j ||| 2 ^ j) O.2.1 O.2.2.1, O.2.2.1, if nI (ocame (O.1 i ||| 2 ^ i) (O.2.1 j ||| 2 ^ j) O.2.1 O.2.2.1) = 0 then O.2.2.2 else O.2.2.2 + 1) L q W P R C M) := by
  refine zo (by decide) (Nat.le_of_ble_eq_true rfl) fun x Cx Rx _ => ?_
  refine zv_go Cx okX8_put [] 3 ?_
  refine ⟨rfl, ?_⟩
  refine zv_callV Cx (c_has K (A 1) (A 2) (A 3) O.1 O.2.1 O.2.2.1 O.2.2.2 (nI i)) (zw_V inX4_has kX8_69 ⟨by decide, by decide⟩) [1, 2, 3] 1 rfl rfl rfl rfl (fun _ => Nat.le_refl _) rfl rfl (by decide) dzX8_put_5 (by decide) (by decide) rfl (fun _ _ => ?_)
  refine zv_to Cx rfl rfl (ws' := (wD K A O L q W P R C M)) rfl ?_
  refine zv_go Cx okX8_put [] 20 ?_
  refine ⟨fun h1 => ?_, fun h1 => ⟨rfl, ?_⟩⟩
  · rw [bI_0, hasb_nI (by omega) (by omega), decide_eq_false_iff_not] at h1; exact absurd hi h1
  refine zv_callV Cx (c_has K (A 1) (A 2) (A 3) O.1 O.2.1 O.2.2.1 O.2.2.2 (nI j)) (zw_V inX4_has kX8_69 ⟨by decide, by decide⟩) [1, 2, 3] 1 rfl rfl rfl rfl (fun _ => Nat.le_refl _) rfl rfl (by decide) dzX8_put_16 (by decide) (by decide) rfl (fun _ _ => ?_)
  refine zv_to Cx rfl rfl (ws' := (wD K A O L q W P R C M)) rfl ?_
  refine zv_go Cx okX8_put [] 20 ?_
  refine ⟨fun h1 => ?_, fun h1 => ⟨fun h3 => ?_, fun h3 => ⟨rfl, ?_⟩⟩⟩
  · rw [bI_0, hasb_nI (by omega) (by omega), decide_eq_false_iff_not] at h1; exact absurd hj h1
  · exact absurd ((nb_inj (by omega) (by omega)).mp h3) hij
  refine zv_callV Cx (c_under K (A 1) (A 2) (A 3) O.1 O.2.1 O.2.2.1 O.2.2.2 (i := j) (j := i) (by omega) (by omega) (Nat.lt_trans (ha j) (by decide))) (zw_V inX4_under kX8_73 ⟨by decide, by decide⟩) [1, 2, 3] 1 rfl rfl rfl rfl (fun _ => Nat.le_refl _) rfl rfl (by decide) dzX8_put_33 (by decide) (by decide) rfl (fun _ _ => ?_)
  refine zv_to Cx rfl rfl (ws' := (wD K A O L q W P R C M)) rfl ?_
  refine zv_go Cx okX8_put [] 20 ?_
  refine ⟨fun h4 => ⟨rfl, ?_⟩, fun h4 => ?_⟩
  · refine zv_callV Cx (c_tie K (A 1) (A 2) (A 3) O.1 O.2.1 O.2.2.1 O.2.2.2 (i := i) (j := j) (by omega) (by omega) hn hb ha (O.1 i ||| 2 ^ i) (O.2.1 j ||| 2 ^ j) rfl rfl) (zw_V inX4_tie kX8_77 ⟨by decide, by decide⟩) [1, 2, 3] 1 rfl rfl rfl rfl (fun _ => Nat.le_refl _) rfl rfl (by decide) dzX8_put_47 (by decide) (by decide) rfl (fun _ _ => ?_)
    exact zr Rx () (List.range 20) (some (.int _)) _ rfl rfl trivial rfl rfl (Nat.zero_le _) (Nat.zero_le _) dzX8_put_50
  · rw [bI_1, hno] at h4; cases h4
set_option maxHeartbeats 4000000 in
set_option maxRecDepth 100000 in
theorem d_chain (i : Int32) (hn : O.2.2.1 ≤ 14) (ha : ∀ j, O.2.1 j < 2 ^ 14) (hs : L.2.2.2 = O.2.2.2 → lcV O.2.1 O.2.2.1 L.2.2.1 L.2.1) : zM (S := (Nat → Int32) × (Nat → Int32)) K yX8_chain cX8_chain 2 (some .int) (zq 4 0 0 86) [.ref (A 0), .int i] (wD K A O L q W P R C M) (fun u => lcV O.2.1 O.2.2.1 (nI (plen O.2.1 O.2.2.1)) u.2) (fun _ => some (.int (chAt O.2.1 O.2.2.1 i))) (fun u => wD K A O (u.1, u.2, nI (plen O.2.1 O.2.2.1), O.2.2.2) q W P R C M) := by
  refine zo (by decide) (Nat.le_of_ble_eq_true rfl) fun x Cx Rx _ => ?_
  refine zv_go Cx okX8_chain [] 3 ?_
  refine ⟨rfl, ?_⟩
  refine zv_callV Cx (c_thingAt K (A 4) (A 1) (A 2) (A 3) (A 5) (A 6) O.1 O.2.1 O.2.2.1 O.2.2.2 L.1 L.2.1 L.2.2.1 L.2.2.2 i hn ha hs) (zw_V inX1_thingAt kX8_111 ⟨by decide, by decide⟩) [4, 1, 2, 3, 5, 6] 4 rfl rfl rfl rfl (fun _ => Nat.le_refl _) rfl rfl (by decide) dzX8_chain_5 (by decide) (by decide) rfl (fun u hu => ?_)
  exact zr Rx u (List.range 20) (some (.int _)) _ rfl rfl hu rfl rfl (Nat.zero_le _) (Nat.zero_le _) dzX8_chain_8
set_option maxHeartbeats 4000000 in
set_option maxRecDepth 100000 in
theorem d_apart (hn : O.2.2.1 ≤ 14) (ha : ∀ j, O.2.1 j < 2 ^ 14) : zM (S := zS) K yX8_apart cX8_apart 1 (some .int) (zq 20 0 0 456) [.ref (A 0)] (wD K A O L q W P R C M) (fun _ => True) (fun _ => some (.int (if W.2 = O.2.2.2 then W.1 else nI (capt O.1 O.2.1 O.2.2.1)))) (fun u => wD K A O L u ((if W.2 = O.2.2.2 then W.1 else nI (capt O.1 O.2.1 O.2.2.1)), O.2.2.2) P R C M) := by
  refine zo (by decide) (Nat.le_of_ble_eq_true rfl) fun x Cx Rx _ => ?_
  refine zv_go Cx okX8_apart [] 2 ?_
  refine ⟨rfl, ?_⟩
  refine zv_callV Cx (c_asSet K (A 9) (A 7) (A 1) (A 2) (A 3) (A 8) O.1 O.2.1 O.2.2.1 O.2.2.2 q W.1 W.2 hn ha) (zw_V inX7_asSet kX8_99 ⟨by decide, by decide⟩) [9, 7, 1, 2, 3, 8] 9 rfl rfl rfl rfl (fun _ => Nat.le_refl _) rfl rfl (by decide) dzX8_apart_4 (by decide) (by decide) rfl (fun u hu => ?_)
  exact zr Rx u (List.range 20) (some (.int _)) _ rfl rfl trivial rfl rfl (Nat.zero_le _) (Nat.zero_le _) dzX8_apart_7
set_option maxHeartbeats 4000000 in
set_option maxRecDepth 100000 in
theorem d_next_no (a : Int32) (h : hasb O.2.2.1 a = false) : zD K yX8_next cX8_next 2 (some .int) (zq 20 0 0 461) [.ref (A 0), .int a] (wD K A O L q W P R C M) (some (.int (-1))) (wD K A O L q W P R C M) := by
  refine zo (by decide) (Nat.le_of_ble_eq_true rfl) fun x Cx Rx _ => ?_
  refine zv_go Cx okX8_next [] 3 ?_
  refine ⟨rfl, ?_⟩
  refine zv_callV Cx (c_has K (A 1) (A 2) (A 3) O.1 O.2.1 O.2.2.1 O.2.2.2 a) (zw_V inX4_has kX8_69 ⟨by decide, by decide⟩) [1, 2, 3] 1 rfl rfl rfl rfl (fun _ => Nat.le_refl _) rfl rfl (by decide) dzX8_next_5 (by decide) (by decide) rfl (fun _ _ => ?_)
  refine zv_to Cx rfl rfl (ws' := (wD K A O L q W P R C M)) rfl ?_
  refine zv_go Cx okX8_next [] 20 ?_
  refine ⟨fun h1 => ?_, fun h1 => ?_⟩
  · exact zr Rx () (List.range 20) (some (.int (-1))) _ rfl rfl trivial rfl rfl (Nat.zero_le _) (Nat.zero_le _) dzX8_next_23
  · rw [bI_1, h] at h1; cases h1
set_option maxHeartbeats 4000000 in
set_option maxRecDepth 100000 in
theorem d_next {v : Nat} (hv : v < O.2.2.1) (hn : O.2.2.1 ≤ 14) (ha : ∀ j, O.2.1 j < 2 ^ 14) (hs : P.2 = O.2.2.2 → ∀ j, j < O.2.2.1 → P.1 j = oI ((lkS O.2.1 O.2.2.1 O.2.2.1).2.2 j)) : zM (S := zS × (Nat → Int32)) K yX8_next cX8_next 2 (some .int) (zq 20 0 0 461) [.ref (A 0), .int (nI v)] (wD K A O L q W P R C M) (fun u => ∀ j, j < O.2.2.1 → u.2 j = oI ((lkS O.2.1 O.2.2.1 O.2.2.1).2.2 j)) (fun _ => some (.int (oI ((lkS O.2.1 O.2.2.1 O.2.2.1).2.2 v)))) (fun u => wD K A O L u.1 W (u.2, O.2.2.2) R C M) := by
  refine zo (by decide) (Nat.le_of_ble_eq_true rfl) fun x Cx Rx _ => ?_
  refine zv_go Cx okX8_next [] 3 ?_
  refine ⟨rfl, ?_⟩
  refine zv_callV Cx (c_has K (A 1) (A 2) (A 3) O.1 O.2.1 O.2.2.1 O.2.2.2 (nI v)) (zw_V inX4_has kX8_69 ⟨by decide, by decide⟩) [1, 2, 3] 1 rfl rfl rfl rfl (fun _ => Nat.le_refl _) rfl rfl (by decide) dzX8_next_5 (by decide) (by decide) rfl (fun _ _ => ?_)
  refine zv_to Cx rfl rfl (ws' := (wD K A O L q W P R C M)) rfl ?_
  refine zv_go Cx okX8_next [] 20 ?_
  refine ⟨fun h1 => ?_, fun h1 => ⟨rfl, ?_⟩⟩
  · rw [bI_0, hasb_nI (by omega) (by omega), decide_eq_false_iff_not] at h1; exact absurd hv h1
  refine zv_callV Cx (c_nextOf K (A 10) (A 7) (A 1) (A 2) (A 3) (A 8) (A 11) O.1 O.2.1 O.2.2.1 O.2.2.2 q P.1 P.2 hv hn ha hs) (zw_V inX5_nextOf kX8_114 ⟨by decide, by decide⟩) [10, 7, 1, 2, 3, 8, 11] 10 rfl rfl rfl rfl (fun _ => Nat.le_refl _) rfl rfl (by decide) dzX8_next_16 (by decide) (by decide) rfl (fun u hu => ?_)
  refine zv_go Cx okX8_next [] 20 ?_
  exact zr Rx u (List.range 20) (some (.int _)) _ rfl rfl hu rfl rfl (Nat.zero_le _) (Nat.zero_le _) dzX8_next_23
end ZD
