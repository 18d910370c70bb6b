/-! THE DESK: rows, before, places, row, rank; cuts -/
section ZE
variable (K : zK) (A : Nat → Nat) (O : dO) (L : dL) (q : zS) (W : dW) (P : dP) (R : dR) (C : dC) (M : dM)
set_option maxHeartbeats 4000000 in
set_option maxRecDepth 100000 in
theorem d_rows (hn : O.2.2.1 ≤ 14) (hb : ∀ j, O.1 j < 2 ^ 14) (hp : pw2 R.2.2.1) (hs : R.2.2.2.2.1 = O.2.2.2 → rbV O.1 O.2.2.1 R.2.2.1 R.1 R.2.2.2.1) : zM (S := Nat × Nat × (Nat → Int64)) K yX8_rows cX8_rows 1 (some .long) (zqB 4 R.2.2.2.2.1 O.2.2.2 O.2.2.1 R.2.2.1 88) [.ref (A 0)] (wD K A O L q W P R C M) (fun u => R.2.2.2.2.1 = O.2.2.2 → u.2.2 = R.2.1) (fun _ => some (.long (rBeg O.1 O.2.2.1 (2 ^ O.2.2.1 - 1)))) (fun u => wD K (va_up (va_up A 13 u.1) 14 u.2.1) O L q W P (rBeg O.1 O.2.2.1, u.2.2, (capB R.2.2.2.2.1 O.2.2.2 O.2.2.1 R.2.2.1), nI (rIdl O.1 O.2.2.1), O.2.2.2, R.2.2.2.2.2) C M) := by
  refine zo (by decide) (Nat.le_of_ble_eq_true rfl) fun x Cx Rx _ => ?_
  refine zv_go Cx okX8_rows [] 2 ?_
  refine ⟨rfl, ?_⟩
  refine zv_callV Cx (c_total K (A 12) (A 1) (A 2) (A 3) (A 13) (A 14) O.1 O.2.1 O.2.2.1 O.2.2.2 R.1 R.2.1 R.2.2.1 R.2.2.2.1 R.2.2.2.2.1 R.2.2.2.2.2 hn hb hp hs) (zw_V inX6_total kX8_117 ⟨by show 3 + 1 ≤ 4; omega, by show 8 + (1 + 11) + 68 ≤ 88; omega⟩) [12, 1, 2, 3, 13, 14] 12 rfl rfl rfl rfl (fun _ => Nat.le_refl _) rfl rfl (by decide) dzX8_rows_4 (Nat.le_of_eq (Nat.zero_add _)) (Nat.le_of_eq (Nat.zero_add _)) rfl (fun u hu => ?_)
  exact zr Rx u (List.range 20) (some (.long _)) _ rfl rfl hu rfl rfl (Nat.le_of_eq (Nat.zero_add _)) (Nat.le_of_eq (Nat.zero_add _)) dzX8_rows_7
set_option maxHeartbeats 4000000 in
set_option maxRecDepth 100000 in
theorem d_row (k : Int64) (h1 : 1 ≤ O.2.2.1) (hn : O.2.2.1 ≤ 14) (hb : ∀ j, O.1 j < 2 ^ 14) (hp : pw2 R.2.2.1) (hs : R.2.2.2.2.1 = O.2.2.2 → rbV O.1 O.2.2.1 R.2.2.1 R.1 R.2.2.2.1) (he : R.2.2.2.2.2 = O.2.2.2 → R.2.2.2.2.1 = O.2.2.2 ∧ reV O.1 O.2.2.1 R.2.1) : zM (S := Nat × Nat × (Nat → Int64)) K yX8_row cX8_row 3 (some .long) (zqB 5 R.2.2.2.2.1 O.2.2.2 O.2.2.1 R.2.2.1 117) [.ref (A 0), .long k] (wD K A O L q W P R C M) (fun u => reV O.1 O.2.2.1 u.2.2) (fun u => some (.long (rnR O.1 O.2.2.1 u.2.2 k))) (fun u => wD K (va_up (va_up A 13 u.1) 14 u.2.1) O L q W P (rBeg O.1 O.2.2.1, u.2.2, (capB R.2.2.2.2.1 O.2.2.2 O.2.2.1 R.2.2.1), nI (rIdl O.1 O.2.2.1), O.2.2.2, O.2.2.2) C M) := by
  refine zo (by decide) (Nat.le_of_ble_eq_true rfl) fun x Cx Rx _ => ?_
  refine zv_go Cx okX8_row [] 3 ?_
  refine ⟨rfl, ?_⟩
  refine zv_callV Cx (c_rowNumbered K (A 12) (A 1) (A 2) (A 3) (A 13) (A 14) O.1 O.2.1 O.2.2.1 O.2.2.2 R.1 R.2.1 R.2.2.1 R.2.2.2.1 R.2.2.2.2.1 R.2.2.2.2.2 k h1 hn hb hp hs he) (zw_V inX6_rowNumbered kX8_130 ⟨by show 4 + 1 ≤ 5; omega, by show 8 + (10 + 11) + 88 ≤ 117; omega⟩) [12, 1, 2, 3, 13, 14] 12 rfl rfl rfl rfl (fun _ => Nat.le_refl _) rfl rfl (by decide) dzX8_row_5 (Nat.le_of_eq (Nat.zero_add _)) (Nat.le_of_eq (Nat.zero_add _)) rfl (fun u hu => ?_)
  exact zr Rx u (List.range 20) (some (.long _)) _ rfl rfl hu rfl rfl (Nat.le_of_eq (Nat.zero_add _)) (Nat.le_of_eq (Nat.zero_add _)) dzX8_row_8
set_option maxHeartbeats 4000000 in
set_option maxRecDepth 100000 in
theorem d_rank (k : Int64) (hn : O.2.2.1 ≤ 14) (hb : ∀ j, O.1 j < 2 ^ 14) (hp : pw2 R.2.2.1) (hs : R.2.2.2.2.1 = O.2.2.2 → rbV O.1 O.2.2.1 R.2.2.1 R.1 R.2.2.2.1) (he : R.2.2.2.2.2 = O.2.2.2 → R.2.2.2.2.1 = O.2.2.2 ∧ reV O.1 O.2.2.1 R.2.1) : zM (S := Nat × Nat × (Nat → Int64)) K yX8_rank cX8_rank 3 (some .long) (zqB 5 R.2.2.2.2.1 O.2.2.2 O.2.2.1 R.2.2.1 116) [.ref (A 0), .long k] (wD K A O L q W P R C M) (fun u => reV O.1 O.2.2.1 u.2.2) (fun u => some (.long (nmR O.1 O.2.2.1 u.2.2 k))) (fun u => wD K (va_up (va_up A 13 u.1) 14 u.2.1) O L q W P (rBeg O.1 O.2.2.1, u.2.2, (capB R.2.2.2.2.1 O.2.2.2 O.2.2.1 R.2.2.1), nI (rIdl O.1 O.2.2.1), O.2.2.2, O.2.2.2) C M) := by
  refine zo (by decide) (Nat.le_of_ble_eq_true rfl) fun x Cx Rx _ => ?_
  refine zv_go Cx okX8_rank [] 3 ?_
  refine ⟨rfl, ?_⟩
  refine zv_callV Cx (c_numberOf K (A 12) (A 1) (A 2) (A 3) (A 13) (A 14) O.1 O.2.1 O.2.2.1 O.2.2.2 R.1 R.2.1 R.2.2.1 R.2.2.2.1 R.2.2.2.2.1 R.2.2.2.2.2 k hn hb hp hs he) (zw_V inX6_numberOf kX8_134 ⟨by show 4 + 1 ≤ 5; omega, by show 8 + (9 + 11) + 88 ≤ 116; omega⟩) [12, 1, 2, 3, 13, 14] 12 rfl rfl rfl rfl (fun _ => Nat.le_refl _) rfl rfl (by decide) dzX8_rank_5 (Nat.le_of_eq (Nat.zero_add _)) (Nat.le_of_eq (Nat.zero_add _)) rfl (fun u hu => ?_)
  exact zr Rx u (List.range 20) (some (.long _)) _ rfl rfl hu rfl rfl (Nat.le_of_eq (Nat.zero_add _)) (Nat.le_of_eq (Nat.zero_add _)) dzX8_rank_8
set_option maxHeartbeats 4000000 in
set_option maxRecDepth 100000 in
theorem d_before_no (a b : Int32) (h : hasb O.2.2.1 a = false ∨ hasb O.2.2.1 b = false ∨ a = b) : zD K yX8_before cX8_before 3 (some .long) (zq 1 0 0 22) [.ref (A 0), .int a, .int b] (wD K A O L q W P R C M) (some (.long (-1))) (wD K A O L q W P R C M) := by
  refine zo (by decide) (Nat.le_of_ble_eq_true rfl) fun x Cx Rx _ => ?_
  refine zv_go Cx okX8_before [] 3 ?_
  refine ⟨rfl, ?_⟩
  refine zv_callV Cx (c_has K (A 1) (A 2) (A 3) O.1 O.2.1 O.2.2.1 O.2.2.2 a) (zw_V inX4_has kX8_69 ⟨by decide, by decide⟩) [1, 2, 3] 1 rfl rfl rfl rfl (fun _ => Nat.le_refl _) rfl rfl (by decide) dzX8_before_5 (by decide) (by decide) rfl (fun _ _ => ?_)
  refine zv_to Cx rfl rfl (ws' := (wD K A O L q W P R C M)) rfl ?_
  refine zv_go Cx okX8_before [] 20 ?_
  refine ⟨fun h1 => ?_, fun h1 => ⟨rfl, ?_⟩⟩
  · exact zr Rx () (List.range 20) (some (.long (-1))) _ rfl rfl trivial rfl rfl (Nat.zero_le _) (Nat.zero_le _) dzX8_before_30
  rw [bI_1] at h1
  refine zv_callV Cx (c_has K (A 1) (A 2) (A 3) O.1 O.2.1 O.2.2.1 O.2.2.2 b) (zw_V inX4_has kX8_69 ⟨by decide, by decide⟩) [1, 2, 3] 1 rfl rfl rfl rfl (fun _ => Nat.le_refl _) rfl rfl (by decide) dzX8_before_16 (by decide) (by decide) rfl (fun _ _ => ?_)
  refine zv_to Cx rfl rfl (ws' := (wD K A O L q W P R C M)) rfl ?_
  refine zv_go Cx okX8_before [] 20 ?_
  refine ⟨fun h2 => ?_, fun h2 => ⟨fun h3 => ⟨rfl, ?_⟩, fun h3 => ?_⟩⟩
  · exact zr Rx () (List.range 20) (some (.long (-1))) _ rfl rfl trivial rfl rfl (Nat.zero_le _) (Nat.zero_le _) dzX8_before_30
  · rw [bI_1] at h2
    rcases h with h | h | h
    · rw [h] at h1; cases h1
    · rw [h] at h2; cases h2
    · exact absurd h h3
  · exact zr Rx () (List.range 20) (some (.long (-1))) _ rfl rfl trivial rfl rfl (Nat.zero_le _) (Nat.zero_le _) dzX8_before_30
set_option maxHeartbeats 4000000 in
set_option maxRecDepth 100000 in
theorem d_before {i j : Nat} (hi : i < O.2.2.1) (hj : j < O.2.2.1) (hij : i ≠ j) (hn : O.2.2.1 ≤ 14) (hb : ∀ j, O.1 j < 2 ^ 14) (hp : pw2 R.2.2.1) (hs : R.2.2.2.2.1 = O.2.2.2 → rbV O.1 O.2.2.1 R.2.2.1 R.1 R.2.2.2.1) (he : R.2.2.2.2.2 = O.2.2.2 → R.2.2.2.2.1 = O.2.2.2 ∧ reV O.1 O.2.2.1 R.2.1) : zM (S := Nat × Nat × (Nat → Int64)) K yX8_before cX8_before 3 (some .long) (zqB 5 R.2.2.2.2.1 O.2.2.2 O.2.2.1 R.2.2.1 114) [.ref (A 0), .int (nI i), .int (nI j)] (wD K A O L q W P R C M) (fun u => reV O.1 O.2.2.1 u.2.2) (fun u => some (.long (rwf O.1 (rBeg O.1 O.2.2.1) u.2.2 i j (2 ^ O.2.2.1)))) (fun u => wD K (va_up (va_up A 13 u.1) 14 u.2.1) O L q W P (rBeg O.1 O.2.2.1, u.2.2, (capB R.2.2.2.2.1 O.2.2.2 O.2.2.1 R.2.2.1), nI (rIdl O.1 O.2.2.1), O.2.2.2, O.2.2.2) C M) := by
  refine zo (by decide) (Nat.le_of_ble_eq_true rfl) fun x Cx Rx _ => ?_
  refine zv_go Cx okX8_before [] 3 ?_
  refine ⟨rfl, ?_⟩
  refine zv_callV Cx (c_has K (A 1) (A 2) (A 3) O.1 O.2.1 O.2.2.1 O.2.2.2 (nI i)) (zw_V inX4_has kX8_69 ⟨by show 0 + 1 ≤ 5; omega, by show 8 + (2 + 11) + 0 ≤ 114; omega⟩) [1, 2, 3] 1 rfl rfl rfl rfl (fun _ => Nat.le_refl _) rfl rfl (by decide) dzX8_before_5 (Nat.zero_le _) (Nat.zero_le _) rfl (fun _ _ => ?_)
  refine zv_to Cx rfl rfl (ws' := (wD K A O L q W P R C M)) rfl ?_
  refine zv_go Cx okX8_before [] 20 ?_
  refine ⟨fun h1 => ?_, fun h1 => ⟨rfl, ?_⟩⟩
  · rw [bI_0, hasb_nI (by omega) (by omega), decide_eq_false_iff_not] at h1; exact absurd hi h1
  refine zv_callV Cx (c_has K (A 1) (A 2) (A 3) O.1 O.2.1 O.2.2.1 O.2.2.2 (nI j)) (zw_V inX4_has kX8_69 ⟨by show 0 + 1 ≤ 5; omega, by show 8 + (2 + 11) + 0 ≤ 114; omega⟩) [1, 2, 3] 1 rfl rfl rfl rfl (fun _ => Nat.le_refl _) rfl rfl (by decide) dzX8_before_16 (Nat.zero_le _) (Nat.zero_le _) rfl (fun _ _ => ?_)
  refine zv_to Cx rfl rfl (ws' := (wD K A O L q W P R C M)) rfl ?_
  refine zv_go Cx okX8_before [] 20 ?_
  refine ⟨fun h1 => ?_, fun h1 => ⟨fun h3 => ⟨rfl, ?_⟩, fun h3 => ?_⟩⟩
  · rw [bI_0, hasb_nI (by omega) (by omega), decide_eq_false_iff_not] at h1; exact absurd hj h1
  · refine zv_callV Cx (c_rowsWithFirst K (A 12) (A 1) (A 2) (A 3) (A 13) (A 14) O.1 O.2.1 O.2.2.1 O.2.2.2 R.1 R.2.1 R.2.2.1 R.2.2.2.1 R.2.2.2.2.1 R.2.2.2.2.2 hi hj hn hb hp hs he) (zw_V inX6_rowsWithFirst kX8_123 ⟨by show 4 + 1 ≤ 5; omega, by show 8 + (7 + 11) + 88 ≤ 114; omega⟩) [12, 1, 2, 3, 13, 14] 12 rfl rfl rfl rfl (fun _ => Nat.le_refl _) rfl rfl (by decide) dzX8_before_37 (Nat.le_of_eq (Nat.zero_add _)) (Nat.le_of_eq (Nat.zero_add _)) rfl (fun u hu => ?_)
    exact zr Rx u (List.range 20) (some (.long _)) _ rfl rfl hu rfl rfl (Nat.le_of_eq (Nat.zero_add _)) (Nat.le_of_eq (Nat.zero_add _)) dzX8_before_40
  · exact absurd ((nb_inj (by omega) (by omega)).mp h3) hij
set_option maxHeartbeats 4000000 in
set_option maxRecDepth 100000 in
theorem d_places_no (a b : Int32) (h : hasb O.2.2.1 a = false ∨ hasb O.2.2.1 b = false) : zD K yX8_places cX8_places 3 (some .long) (zq 1 0 0 22) [.ref (A 0), .int a, .int b] (wD K A O L q W P R C M) (some (.long (-1))) (wD K A O L q W P R C M) := by
  refine zo (by decide) (Nat.le_of_ble_eq_true rfl) fun x Cx Rx _ => ?_
  refine zv_go Cx okX8_places [] 3 ?_
  refine ⟨rfl, ?_⟩
  refine zv_callV Cx (c_has K (A 1) (A 2) (A 3) O.1 O.2.1 O.2.2.1 O.2.2.2 a) (zw_V inX4_has kX8_69 ⟨by decide, by decide⟩) [1, 2, 3] 1 rfl rfl rfl rfl (fun _ => Nat.le_refl _) rfl rfl (by decide) dzX8_places_5 (by decide) (by decide) rfl (fun _ _ => ?_)
  refine zv_to Cx rfl rfl (ws' := (wD K A O L q W P R C M)) rfl ?_
  refine zv_go Cx okX8_places [] 20 ?_
  refine ⟨fun h1 => ?_, fun h1 => ⟨fun h2 => ?_, fun h2 => ⟨rfl, rfl, fun h3 => ?_, fun h3 => ?_⟩⟩⟩
  · exact zr Rx () (List.range 20) (some (.long (-1))) _ rfl rfl trivial rfl rfl (Nat.zero_le _) (Nat.zero_le _) dzX8_places_29
  · exact zr Rx () (List.range 20) (some (.long (-1))) _ rfl rfl trivial rfl rfl (Nat.zero_le _) (Nat.zero_le _) dzX8_places_29
  · rw [bI_1] at h1
    rcases h with h | h
    · rw [h] at h1; cases h1
    · have hq : hasb O.2.2.1 b = true := decide_eq_true ⟨Int32.not_lt.mp h2, h3⟩
      rw [h] at hq; cases hq
  · exact zr Rx () (List.range 20) (some (.long (-1))) _ rfl rfl trivial rfl rfl (Nat.zero_le _) (Nat.zero_le _) dzX8_places_29
set_option maxHeartbeats 4000000 in
set_option maxRecDepth 100000 in
theorem d_places {i j : Nat} (hi : i < O.2.2.1) (hj : j < O.2.2.1) (hn : O.2.2.1 ≤ 14) (hb : ∀ j, O.1 j < 2 ^ 14) (hp : pw2 R.2.2.1) (hs : R.2.2.2.2.1 = O.2.2.2 → rbV O.1 O.2.2.1 R.2.2.1 R.1 R.2.2.2.1) (he : R.2.2.2.2.2 = O.2.2.2 → R.2.2.2.2.1 = O.2.2.2 ∧ reV O.1 O.2.2.1 R.2.1) : zM (S := Nat × Nat × (Nat → Int64)) K yX8_places cX8_places 3 (some .long) (zqB 5 R.2.2.2.2.1 O.2.2.2 O.2.2.1 R.2.2.1 114) [.ref (A 0), .int (nI i), .int (nI j)] (wD K A O L q W P R C M) (fun u => reV O.1 O.2.2.1 u.2.2) (fun u => some (.long (rwp O.1 (rBeg O.1 O.2.2.1) u.2.2 i j (2 ^ O.2.2.1)))) (fun u => wD K (va_up (va_up A 13 u.1) 14 u.2.1) O L q W P (rBeg O.1 O.2.2.1, u.2.2, (capB R.2.2.2.2.1 O.2.2.2 O.2.2.1 R.2.2.1), nI (rIdl O.1 O.2.2.1), O.2.2.2, O.2.2.2) C M) := by
  refine zo (by decide) (Nat.le_of_ble_eq_true rfl) fun x Cx Rx _ => ?_
  refine zv_go Cx okX8_places [] 3 ?_
  refine ⟨rfl, ?_⟩
  refine zv_callV Cx (c_has K (A 1) (A 2) (A 3) O.1 O.2.1 O.2.2.1 O.2.2.2 (nI i)) (zw_V inX4_has kX8_69 ⟨by show 0 + 1 ≤ 5; omega, by show 8 + (2 + 11) + 0 ≤ 114; omega⟩) [1, 2, 3] 1 rfl rfl rfl rfl (fun _ => Nat.le_refl _) rfl rfl (by decide) dzX8_places_5 (Nat.zero_le _) (Nat.zero_le _) rfl (fun _ _ => ?_)
  refine zv_to Cx rfl rfl (ws' := (wD K A O L q W P R C M)) rfl ?_
  refine zv_go Cx okX8_places [] 20 ?_
  refine ⟨fun h1 => ?_, fun h1 => ⟨fun h2 => absurd h2 (nI_pos (by omega)), fun h2 => ⟨rfl, rfl, fun h3 => ⟨rfl, ?_⟩, fun h3 => absurd (nI_lt hj (by omega)) h3⟩⟩⟩
  · rw [bI_0, hasb_nI (by omega) (by omega), decide_eq_false_iff_not] at h1; exact absurd hi h1
  refine zv_callV Cx (c_rowsWithPlace K (A 12) (A 1) (A 2) (A 3) (A 13) (A 14) O.1 O.2.1 O.2.2.1 O.2.2.2 R.1 R.2.1 R.2.2.1 R.2.2.2.1 R.2.2.2.2.1 R.2.2.2.2.2 hi hj hn hb hp hs he) (zw_V inX6_rowsWithPlace kX8_127 ⟨by show 4 + 1 ≤ 5; omega, by show 8 + (7 + 11) + 88 ≤ 114; omega⟩) [12, 1, 2, 3, 13, 14] 12 rfl rfl rfl rfl (fun _ => Nat.le_refl _) rfl rfl (by decide) dzX8_places_36 (Nat.le_of_eq (Nat.zero_add _)) (Nat.le_of_eq (Nat.zero_add _)) rfl (fun u hu => ?_)
  exact zr Rx u (List.range 20) (some (.long _)) _ rfl rfl hu rfl rfl (Nat.le_of_eq (Nat.zero_add _)) (Nat.le_of_eq (Nat.zero_add _)) dzX8_places_39
end ZE
