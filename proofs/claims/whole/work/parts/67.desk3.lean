theorem capR_same (ver : Int32) (bl ab : Nat → Nat) (n cap : Nat) : capR ver ver bl ab n cap = cap := if_pos rfl
/-- the list of cuts is fresh: has, numberOfLeast -/
theorem c_clHas1 (K : zK) (c o b a y : Nat) (bl ab : Nat → Nat) (n : Nat) (ver : Int32) (sf : Nat → Int32) (cap : Nat) (len k : Int32) (hn : n ≤ 14) (h0 : 0 < cap) (hcap : cap ≤ 32768) (hs : clV bl ab n len sf) :
    zM (S := Nat × (Nat → Int32)) K yX0_has cX0_has 2 (some .boolean) (zq 5 0 0 146) [.ref c, .int k] (wC K c o b a y bl ab n ver sf cap len ver) (fun u => clV bl ab n (nI (cstop bl ab n + 1)) u.2) (fun _ => some (.int (bI (hasb (cstop bl ab n + 1) k)))) (fun u => wC K c o b a u.1 bl ab n ver u.2 cap (nI (cstop bl ab n + 1)) ver) := by
  have h : zM (S := Nat × (Nat → Int32)) K yX0_has cX0_has 2 (some .boolean) (zq 5 (capR ver ver bl ab n cap - cap) (2 * (capR ver ver bl ab n cap - cap)) 146) [.ref c, .int k] (wC K c o b a y bl ab n ver sf cap len ver) (fun u => clV bl ab n (nI (cstop bl ab n + 1)) u.2) (fun _ => some (.int (bI (hasb (cstop bl ab n + 1) k)))) (fun u => wC K c o b a u.1 bl ab n ver u.2 (capR ver ver bl ab n cap) (nI (cstop bl ab n + 1)) ver) := c_clHas K c o b a y bl ab n ver sf cap len ver k hn h0 hcap (fun _ => hs)
  rw [capR_same, Nat.sub_self] at h
  exact h
theorem c_numberOfLeast1 (K : zK) (c o b a y : Nat) (bl ab : Nat → Nat) (n : Nat) (ver : Int32) (sf : Nat → Int32) (cap : Nat) (len : Int32) {s : Nat} (hls : s < 2 ^ 14) (hn : n ≤ 14) (h0 : 0 < cap) (hcap : cap ≤ 32768) (hs : clV bl ab n len sf) (hge : cstop bl ab n + 1 ≤ cap) :
    zM (S := Nat × (Nat → Int32)) K yX0_numberOfLeast cX0_numberOfLeast 4 (some .int) (zq 5 0 0 146) [.ref c, .int (nI s)] (wC K c o b a y bl ab n ver sf cap len ver) (fun u => clV bl ab n (nI (cstop bl ab n + 1)) u.2) (fun _ => some (.int (oI (nol bl ab n (clo bl ab n s) (cstop bl ab n + 1))))) (fun u => wC K c o b a u.1 bl ab n ver u.2 cap (nI (cstop bl ab n + 1)) ver) := by
  have h : zM (S := Nat × (Nat → Int32)) K yX0_numberOfLeast cX0_numberOfLeast 4 (some .int) (zq 5 (capR ver ver bl ab n cap - cap) (2 * (capR ver ver bl ab n cap - cap)) 146) [.ref c, .int (nI s)] (wC K c o b a y bl ab n ver sf cap len ver) (fun u => clV bl ab n (nI (cstop bl ab n + 1)) u.2) (fun _ => some (.int (oI (nol bl ab n (clo bl ab n s) (cstop bl ab n + 1))))) (fun u => wC K c o b a u.1 bl ab n ver u.2 (capR ver ver bl ab n cap) (nI (cstop bl ab n + 1)) ver) := c_numberOfLeast K c o b a y bl ab n ver sf cap len ver hls hn h0 hcap (fun _ => ⟨hs, hge⟩)
  rw [capR_same, Nat.sub_self] at h
  exact h
theorem capR_sameX (ver : Int32) (bl ab : Nat → Nat) (n cap : Nat) : capR ver ver bl ab n cap = cap := if_pos rfl
/-! THE DESK: cut, least, joined -/
section ZF
variable (K : zK) (A : Nat → Nat) (O : dO) (L : dL) (q : zS) (W : dW) (P : dP) (R : dR) (C : dC) (M : dM)
set_option maxHeartbeats 4000000 in
set_option maxRecDepth 100000 in
theorem d_cut_no (k : Int32) (h : hasb (cstop O.1 O.2.1 O.2.2.1 + 1) k = false) (hn : O.2.2.1 ≤ 14) (h0 : 0 < C.2.1) (hcap : C.2.1 ≤ 32768) (hs : C.2.2.2 = O.2.2.2 → clV O.1 O.2.1 O.2.2.1 C.2.2.1 C.1 ∧ cstop O.1 O.2.1 O.2.2.1 + 1 ≤ C.2.1) : zM (S := Nat × (Nat → Int32)) K yX8_cut cX8_cut 2 (some .int) (zqC 6 C.2.2.2 O.2.2.2 O.1 O.2.1 O.2.2.1 C.2.1 167) [.ref (A 0), .int k] (wD K A O L q W P R C M) (fun u => clV O.1 O.2.1 O.2.2.1 (nI (cstop O.1 O.2.1 O.2.2.1 + 1)) u.2) (fun _ => some (.int (-1))) (fun u => (wD K (va_up A 16 u.1) O L q W P R (u.2, (capR C.2.2.2 O.2.2.2 O.1 O.2.1 O.2.2.1 C.2.1), nI (cstop O.1 O.2.1 O.2.2.1 + 1), O.2.2.2) M)) := by
  refine zo (by decide) (Nat.le_of_ble_eq_true rfl) fun x Cx Rx _ => ?_
  refine zv_go Cx okX8_cut [] 3 ?_
  refine ⟨rfl, ?_⟩
  refine zv_callV Cx (c_clHas K (A 15) (A 1) (A 2) (A 3) (A 16) O.1 O.2.1 O.2.2.1 O.2.2.2 C.1 C.2.1 C.2.2.1 C.2.2.2 k hn h0 hcap (fun z => (hs z).1)) (zw_V inX0_has kX8_137 ⟨by show 5 + 1 ≤ 6; omega, by show 8 + (2 + 11) + 146 ≤ 167; omega⟩) [15, 1, 2, 3, 16] 15 rfl rfl rfl rfl (fun _ => Nat.le_refl _) rfl rfl (by decide) dzX8_cut_5 (Nat.le_of_eq (Nat.zero_add _)) (Nat.le_of_eq (Nat.zero_add _)) rfl (fun u hu => ?_)
  refine zv_to Cx rfl rfl (ws' := (wD K (va_up A 16 u.1) O L q W P R (u.2, (capR C.2.2.2 O.2.2.2 O.1 O.2.1 O.2.2.1 C.2.1), nI (cstop O.1 O.2.1 O.2.2.1 + 1), O.2.2.2) M)) rfl ?_
  refine zv_wide Cx (ce' := (capR C.2.2.2 O.2.2.2 O.1 O.2.1 O.2.2.1 C.2.1) - C.2.1) (sl' := 2 * ((capR C.2.2.2 O.2.2.2 O.1 O.2.1 O.2.2.1 C.2.1) - C.2.1)) (Nat.le_of_eq (Nat.zero_add _)) (Nat.le_of_eq (Nat.zero_add _)) ?_
  refine zv_go Cx okX8_cut [] 20 ?_
  refine ⟨fun h1 => ?_, fun h1 => ?_⟩
  · exact zr Rx u (List.range 20) (some (.int (-1))) _ rfl rfl hu rfl rfl (Nat.le_refl _) (Nat.le_refl _) dzX8_cut_23
  · rw [bI_1, h] at h1; cases h1
set_option maxHeartbeats 4000000 in
set_option maxRecDepth 100000 in
theorem d_cut {j : Nat} (hj : j ≤ cstop O.1 O.2.1 O.2.2.1) (hn : O.2.2.1 ≤ 14) (h0 : 0 < C.2.1) (hcap : C.2.1 ≤ 32768) (hs : C.2.2.2 = O.2.2.2 → clV O.1 O.2.1 O.2.2.1 C.2.2.1 C.1 ∧ cstop O.1 O.2.1 O.2.2.1 + 1 ≤ C.2.1) : zM (S := Nat × (Nat → Int32)) K yX8_cut cX8_cut 2 (some .int) (zqC 6 C.2.2.2 O.2.2.2 O.1 O.2.1 O.2.2.1 C.2.1 167) [.ref (A 0), .int (nI j)] (wD K A O L q W P R C M) (fun u => clV O.1 O.2.1 O.2.2.1 (nI (cstop O.1 O.2.1 O.2.2.1 + 1)) u.2) (fun _ => some (.int (nI (cutv O.1 O.2.1 O.2.2.1 j)))) (fun u => (wD K (va_up A 16 u.1) O L q W P R (u.2, (capR C.2.2.2 O.2.2.2 O.1 O.2.1 O.2.2.1 C.2.1), nI (cstop O.1 O.2.1 O.2.2.1 + 1), O.2.2.2) M)) := by
  refine zo (by decide) (Nat.le_of_ble_eq_true rfl) fun x Cx Rx _ => ?_
  have hge := capR_ge hn h0 hcap (fun z => (hs z).2)
  have hhi := capR_hi C.2.2.2 O.2.2.2 O.1 O.2.1 hn h0 hcap
  have hst := cstop_le O.1 O.2.1 O.2.2.1
  have hall := nb_all_lt hn
  refine zv_go Cx okX8_cut [] 3 ?_
  refine ⟨rfl, ?_⟩
  refine zv_callV Cx (c_clHas K (A 15) (A 1) (A 2) (A 3) (A 16) O.1 O.2.1 O.2.2.1 O.2.2.2 C.1 C.2.1 C.2.2.1 C.2.2.2 (nI j) hn h0 hcap (fun z => (hs z).1)) (zw_V inX0_has kX8_137 ⟨by show 5 + 1 ≤ 6; omega, by show 8 + (2 + 11) + 146 ≤ 167; omega⟩) [15, 1, 2, 3, 16] 15 rfl rfl rfl rfl (fun _ => Nat.le_refl _) rfl rfl (by decide) dzX8_cut_5 (Nat.le_of_eq (Nat.zero_add _)) (Nat.le_of_eq (Nat.zero_add _)) rfl (fun u hu => ?_)
  refine zv_to Cx rfl rfl (ws' := (wD K (va_up A 16 u.1) O L q W P R (u.2, (capR C.2.2.2 O.2.2.2 O.1 O.2.1 O.2.2.1 C.2.1), nI (cstop O.1 O.2.1 O.2.2.1 + 1), O.2.2.2) M)) rfl ?_
  refine zv_wide Cx (ce' := (capR C.2.2.2 O.2.2.2 O.1 O.2.1 O.2.2.1 C.2.1) - C.2.1) (sl' := 2 * ((capR C.2.2.2 O.2.2.2 O.1 O.2.1 O.2.2.1 C.2.1) - C.2.1)) (Nat.le_of_eq (Nat.zero_add _)) (Nat.le_of_eq (Nat.zero_add _)) ?_
  refine zv_go Cx okX8_cut [] 20 ?_
  refine ⟨fun h1 => ?_, fun h1 => ⟨rfl, ?_⟩⟩
  · rw [bI_0, hasb_nI (by omega) (by omega), decide_eq_false_iff_not] at h1; exact absurd (by omega) h1
  refine zv_callV Cx (c_setOf K (A 15) (A 1) (A 2) (A 3) u.1 O.1 O.2.1 O.2.2.1 O.2.2.2 u.2 (capR C.2.2.2 O.2.2.2 O.1 O.2.1 O.2.2.1 C.2.1) (nI (cstop O.1 O.2.1 O.2.2.1 + 1)) O.2.2.2 (k := j) (by omega) hhi) (zw_V inX0_setOf kX8_138 ⟨by show 0 + 1 ≤ 6; omega, by show 8 + (2 + 11) + 0 ≤ 167; omega⟩) [15, 1, 2, 3, 16] 15 rfl rfl rfl rfl (fun _ => Nat.le_refl _) rfl rfl (by decide) dzX8_cut_16 (Nat.le_refl _) (Nat.le_refl _) rfl (fun _ _ => ?_)
  refine zv_to Cx rfl rfl (ws' := (wD K (va_up A 16 u.1) O L q W P R (u.2, (capR C.2.2.2 O.2.2.2 O.1 O.2.1 O.2.2.1 C.2.1), nI (cstop O.1 O.2.1 O.2.2.1 + 1), O.2.2.2) M)) rfl ?_
  refine zv_go Cx okX8_cut [] 20 ?_
  exact zr Rx u (List.range 20) (some (.int _)) _ (by rw [hu.2 j hj]) rfl hu rfl rfl (Nat.le_refl _) (Nat.le_refl _) dzX8_cut_23
set_option maxHeartbeats 4000000 in
set_option maxRecDepth 100000 in
theorem d_least_no (v : Int32) (h : ¬ v &&& (nI (2 ^ O.2.2.1 - 1) ^^^ (-1)) = 0) (hn : O.2.2.1 ≤ 14) : zD K yX8_least cX8_least 2 (some .int) (zq 1 0 0 22) [.ref (A 0), .int v] (wD K A O L q W P R C M) (some (.int (-1))) (wD K A O L q W P R C M) := by
  refine zo (by decide) (Nat.le_of_ble_eq_true rfl) fun x Cx Rx _ => ?_
  refine zv_go Cx okX8_least [] 3 ?_
  refine ⟨rfl, ?_⟩
  refine zv_callV Cx (c_all K (A 1) (A 2) (A 3) O.1 O.2.1 O.2.2.1 O.2.2.2 hn) (zw_V inX4_all kX8_141 ⟨by decide, by decide⟩) [1, 2, 3] 1 rfl rfl rfl rfl (fun _ => Nat.le_refl _) (rest := [.int v]) rfl rfl (Nat.le_of_ble_eq_true rfl) dzX8_least_5 (by decide) (by decide) rfl (fun _ _ => ?_)
  refine zv_to Cx rfl rfl (ws' := (wD K A O L q W P R C M)) rfl ?_
  refine zv_go Cx okX8_least [] 20 ?_
  refine ⟨fun h1 => absurd h1 h, fun h1 => ?_⟩
  exact zr Rx () (List.range 20) (some (.int (-1))) _ rfl rfl trivial rfl rfl (Nat.zero_le _) (Nat.zero_le _) dzX8_least_15
set_option maxHeartbeats 4000000 in
set_option maxRecDepth 100000 in
theorem d_least {s : Nat} (hsl : s < 2 ^ 14) (hsub : ndf s (2 ^ O.2.2.1 - 1) = 0) (hn : O.2.2.1 ≤ 14) (h0 : 0 < C.2.1) (hcap : C.2.1 ≤ 32768) (hs : C.2.2.2 = O.2.2.2 → clV O.1 O.2.1 O.2.2.1 C.2.2.1 C.1 ∧ cstop O.1 O.2.1 O.2.2.1 + 1 ≤ C.2.1) : zM (S := Nat × (Nat → Int32)) K yX8_least cX8_least 2 (some .int) (zqC 6 C.2.2.2 O.2.2.2 O.1 O.2.1 O.2.2.1 C.2.1 169) [.ref (A 0), .int (nI s)] (wD K A O L q W P R C M) (fun u => clV O.1 O.2.1 O.2.2.1 (nI (cstop O.1 O.2.1 O.2.2.1 + 1)) u.2) (fun _ => some (.int (oI (nol O.1 O.2.1 O.2.2.1 (clo O.1 O.2.1 O.2.2.1 s) (cstop O.1 O.2.1 O.2.2.1 + 1))))) (fun u => (wD K (va_up A 16 u.1) O L q W P R (u.2, (capR C.2.2.2 O.2.2.2 O.1 O.2.1 O.2.2.1 C.2.1), nI (cstop O.1 O.2.1 O.2.2.1 + 1), O.2.2.2) M)) := by
  refine zo (by decide) (Nat.le_of_ble_eq_true rfl) fun x Cx Rx _ => ?_
  refine zv_go Cx okX8_least [] 3 ?_
  refine ⟨rfl, ?_⟩
  refine zv_callV Cx (c_all K (A 1) (A 2) (A 3) O.1 O.2.1 O.2.2.1 O.2.2.2 hn) (zw_V inX4_all kX8_141 ⟨by show 0 + 1 ≤ 6; omega, by show 8 + (1 + 11) + 0 ≤ 169; omega⟩) [1, 2, 3] 1 rfl rfl rfl rfl (fun _ => Nat.le_refl _) (rest := [.int (nI s)]) rfl rfl (Nat.le_of_ble_eq_true rfl) dzX8_least_5 (Nat.zero_le _) (Nat.zero_le _) rfl (fun _ _ => ?_)
  refine zv_to Cx rfl rfl (ws' := (wD K A O L q W P R C M)) rfl ?_
  refine zv_go Cx okX8_least [] 20 ?_
  refine ⟨fun h1 => ⟨rfl, ?_⟩, fun h1 => ?_⟩
  · refine zv_callV Cx (c_numberOfLeast K (A 15) (A 1) (A 2) (A 3) (A 16) O.1 O.2.1 O.2.2.1 O.2.2.2 C.1 C.2.1 C.2.2.1 C.2.2.2 (s := s) hsl hn h0 hcap hs) (zw_V inX0_numberOfLeast kX8_144 ⟨by show 5 + 1 ≤ 6; omega, by show 8 + (4 + 11) + 146 ≤ 169; omega⟩) [15, 1, 2, 3, 16] 15 rfl rfl rfl rfl (fun _ => Nat.le_refl _) rfl rfl (by decide) dzX8_least_21 (Nat.le_of_eq (Nat.zero_add _)) (Nat.le_of_eq (Nat.zero_add _)) rfl (fun u hu => ?_)
    exact zr Rx u (List.range 20) (some (.int _)) _ rfl rfl hu rfl rfl (Nat.le_of_eq (Nat.zero_add _)) (Nat.le_of_eq (Nat.zero_add _)) dzX8_least_24
  · rw [nb_not, hsub] at h1; exact absurd rfl h1
set_option maxHeartbeats 4000000 in
set_option maxRecDepth 100000 in
theorem d_joined_no (k l me : Int32) (h : hasb (cstop O.1 O.2.1 O.2.2.1 + 1) k = false ∨ hasb (cstop O.1 O.2.1 O.2.2.1 + 1) l = false) (hn : O.2.2.1 ≤ 14) (h0 : 0 < C.2.1) (hcap : C.2.1 ≤ 32768) (hs : C.2.2.2 = O.2.2.2 → clV O.1 O.2.1 O.2.2.1 C.2.2.1 C.1 ∧ cstop O.1 O.2.1 O.2.2.1 + 1 ≤ C.2.1) : zM (S := Nat × (Nat → Int32)) K yX8_joined cX8_joined 6 (some .int) (zqC 6 C.2.2.2 O.2.2.2 O.1 O.2.1 O.2.2.1 C.2.1 169) [.ref (A 0), .int k, .int l, .int me] (wD K A O L q W P R C M) (fun u => clV O.1 O.2.1 O.2.2.1 (nI (cstop O.1 O.2.1 O.2.2.1 + 1)) u.2) (fun _ => some (.int (-1))) (fun u => (wD K (va_up A 16 u.1) O L q W P R (u.2, (capR C.2.2.2 O.2.2.2 O.1 O.2.1 O.2.2.1 C.2.1), nI (cstop O.1 O.2.1 O.2.2.1 + 1), O.2.2.2) M)) := by
  refine zo (by decide) (Nat.le_of_ble_eq_true rfl) fun x Cx Rx _ => ?_
  have hge := capR_ge hn h0 hcap (fun z => (hs z).2)
  have hhi := capR_hi C.2.2.2 O.2.2.2 O.1 O.2.1 hn h0 hcap
  have hst := cstop_le O.1 O.2.1 O.2.2.1
  have hall := nb_all_lt hn
  have hpos : 0 < 2 ^ O.2.2.1 := Nat.two_pow_pos _
  refine zv_go Cx okX8_joined [] 3 ?_
  refine ⟨rfl, ?_⟩
  refine zv_callV Cx (c_clHas K (A 15) (A 1) (A 2) (A 3) (A 16) O.1 O.2.1 O.2.2.1 O.2.2.2 C.1 C.2.1 C.2.2.1 C.2.2.2 k hn h0 hcap (fun z => (hs z).1)) (zw_V inX0_has kX8_137 ⟨by show 5 + 1 ≤ 6; omega, by show 8 + (2 + 11) + 146 ≤ 169; omega⟩) [15, 1, 2, 3, 16] 15 rfl rfl rfl rfl (fun _ => Nat.le_refl _) rfl rfl (by decide) dzX8_joined_5 (Nat.le_of_eq (Nat.zero_add _)) (Nat.le_of_eq (Nat.zero_add _)) rfl (fun u hu => ?_)
  refine zv_to Cx rfl rfl (ws' := (wD K (va_up A 16 u.1) O L q W P R (u.2, (capR C.2.2.2 O.2.2.2 O.1 O.2.1 O.2.2.1 C.2.1), nI (cstop O.1 O.2.1 O.2.2.1 + 1), O.2.2.2) M)) rfl ?_
  refine zv_wide Cx (ce' := (capR C.2.2.2 O.2.2.2 O.1 O.2.1 O.2.2.1 C.2.1) - C.2.1) (sl' := 2 * ((capR C.2.2.2 O.2.2.2 O.1 O.2.1 O.2.2.1 C.2.1) - C.2.1)) (Nat.le_of_eq (Nat.zero_add _)) (Nat.le_of_eq (Nat.zero_add _)) ?_
  refine zv_go Cx okX8_joined [] 20 ?_
  refine ⟨fun h1 => ?_, fun h1 => ⟨rfl, ?_⟩⟩
  · exact zr Rx u (List.range 20) (some (.int (-1))) _ rfl rfl hu rfl rfl (Nat.le_refl _) (Nat.le_refl _) dzX8_joined_23
  rw [bI_1] at h1
  refine zv_callV Cx (c_clHas1 K (A 15) (A 1) (A 2) (A 3) u.1 O.1 O.2.1 O.2.2.1 O.2.2.2 u.2 (capR C.2.2.2 O.2.2.2 O.1 O.2.1 O.2.2.1 C.2.1) (nI (cstop O.1 O.2.1 O.2.2.1 + 1)) l hn (by omega) hhi hu) (zw_V inX0_has kX8_137 ⟨by show 5 + 1 ≤ 6; omega, by show 8 + (2 + 11) + 146 ≤ 169; omega⟩) [15, 1, 2, 3, 16] 15 rfl rfl rfl rfl (fun _ => Nat.le_refl _) rfl rfl (by decide) dzX8_joined_16 (Nat.le_refl _) (Nat.le_refl _) rfl (fun w hw => ?_)
  refine zv_to Cx rfl rfl (ws' := (wD K (va_up A 16 w.1) O L q W P R (w.2, (capR C.2.2.2 O.2.2.2 O.1 O.2.1 O.2.2.1 C.2.1), nI (cstop O.1 O.2.1 O.2.2.1 + 1), O.2.2.2) M)) rfl ?_
  refine zv_go Cx okX8_joined [] 20 ?_
  refine ⟨fun h2 => ?_, fun h2 => ?_⟩
  · rw [bI_1] at h2
    rcases h with h | h
    · rw [h] at h1; cases h1
    · rw [h] at h2; cases h2
  · exact zr Rx w (List.range 20) (some (.int (-1))) _ rfl rfl hw rfl rfl (Nat.le_refl _) (Nat.le_refl _) dzX8_joined_23
set_option maxHeartbeats 4000000 in
set_option maxRecDepth 100000 in
theorem d_joined {i j : Nat} (me : Int32) (hi : i ≤ cstop O.1 O.2.1 O.2.2.1) (hj : j ≤ cstop O.1 O.2.1 O.2.2.1) (hn : O.2.2.1 ≤ 14) (h0 : 0 < C.2.1) (hcap : C.2.1 ≤ 32768) (hs : C.2.2.2 = O.2.2.2 → clV O.1 O.2.1 O.2.2.1 C.2.2.1 C.1 ∧ cstop O.1 O.2.1 O.2.2.1 + 1 ≤ C.2.1) : zM (S := Nat × (Nat → Int32)) K yX8_joined cX8_joined 6 (some .int) (zqC 6 C.2.2.2 O.2.2.2 O.1 O.2.1 O.2.2.1 C.2.1 169) [.ref (A 0), .int (nI i), .int (nI j), .int me] (wD K A O L q W P R C M) (fun u => clV O.1 O.2.1 O.2.2.1 (nI (cstop O.1 O.2.1 O.2.2.1 + 1)) u.2) (fun _ => some (.int (oI (nol O.1 O.2.1 O.2.2.1 (clo O.1 O.2.1 O.2.2.1 (if me = 0 then (cutv O.1 O.2.1 O.2.2.1 i) ||| (cutv O.1 O.2.1 O.2.2.1 j) else (cutv O.1 O.2.1 O.2.2.1 i) &&& (cutv O.1 O.2.1 O.2.2.1 j))) (cstop O.1 O.2.1 O.2.2.1 + 1))))) (fun u => (wD K (va_up A 16 u.1) O L q W P R (u.2, (capR C.2.2.2 O.2.2.2 O.1 O.2.1 O.2.2.1 C.2.1), nI (cstop O.1 O.2.1 O.2.2.1 + 1), O.2.2.2) M)) := by
  refine zo (by decide) (Nat.le_of_ble_eq_true rfl) fun x Cx Rx _ => ?_
  have hge := capR_ge hn h0 hcap (fun z => (hs z).2)
  have hhi := capR_hi C.2.2.2 O.2.2.2 O.1 O.2.1 hn h0 hcap
  have hst := cstop_le O.1 O.2.1 O.2.2.1
  have hall := nb_all_lt hn
  have hpos : 0 < 2 ^ O.2.2.1 := Nat.two_pow_pos _
  have hmx : (if me = 0 then (cutv O.1 O.2.1 O.2.2.1 i) ||| (cutv O.1 O.2.1 O.2.2.1 j) else (cutv O.1 O.2.1 O.2.2.1 i) &&& (cutv O.1 O.2.1 O.2.2.1 j)) < 2 ^ 14 := by
    split
    · exact nb_lt_or (cutv_lt hn) (cutv_lt hn)
    · exact Nat.lt_of_le_of_lt Nat.and_le_left (cutv_lt hn)
  refine zv_go Cx okX8_joined [] 3 ?_
  refine ⟨rfl, ?_⟩
  refine zv_callV Cx (c_clHas K (A 15) (A 1) (A 2) (A 3) (A 16) O.1 O.2.1 O.2.2.1 O.2.2.2 C.1 C.2.1 C.2.2.1 C.2.2.2 (nI i) hn h0 hcap (fun z => (hs z).1)) (zw_V inX0_has kX8_137 ⟨by show 5 + 1 ≤ 6; omega, by show 8 + (2 + 11) + 146 ≤ 169; omega⟩) [15, 1, 2, 3, 16] 15 rfl rfl rfl rfl (fun _ => Nat.le_refl _) rfl rfl (by decide) dzX8_joined_5 (Nat.le_of_eq (Nat.zero_add _)) (Nat.le_of_eq (Nat.zero_add _)) rfl (fun u hu => ?_)
  refine zv_to Cx rfl rfl (ws' := (wD K (va_up A 16 u.1) O L q W P R (u.2, (capR C.2.2.2 O.2.2.2 O.1 O.2.1 O.2.2.1 C.2.1), nI (cstop O.1 O.2.1 O.2.2.1 + 1), O.2.2.2) M)) rfl ?_
  refine zv_wide Cx (ce' := (capR C.2.2.2 O.2.2.2 O.1 O.2.1 O.2.2.1 C.2.1) - C.2.1) (sl' := 2 * ((capR C.2.2.2 O.2.2.2 O.1 O.2.1 O.2.2.1 C.2.1) - C.2.1)) (Nat.le_of_eq (Nat.zero_add _)) (Nat.le_of_eq (Nat.zero_add _)) ?_
  refine zv_go Cx okX8_joined [] 20 ?_
  refine ⟨fun h1 => ?_, fun h1 => ⟨rfl, ?_⟩⟩
  · rw [bI_0, hasb_nI (by omega) (by omega), decide_eq_false_iff_not] at h1; exact absurd (by omega) h1
  refine zv_callV Cx (c_clHas1 K (A 15) (A 1) (A 2) (A 3) u.1 O.1 O.2.1 O.2.2.1 O.2.2.2 u.2 (capR C.2.2.2 O.2.2.2 O.1 O.2.1 O.2.2.1 C.2.1) (nI (cstop O.1 O.2.1 O.2.2.1 + 1)) (nI j) hn (by omega) hhi hu) (zw_V inX0_has kX8_137 ⟨by show 5 + 1 ≤ 6; omega, by show 8 + (2 + 11) + 146 ≤ 169; omega⟩) [15, 1, 2, 3, 16] 15 rfl rfl rfl rfl (fun _ => Nat.le_refl _) rfl rfl (by decide) dzX8_joined_16 (Nat.le_refl _) (Nat.le_refl _) rfl (fun w hw => ?_)
  refine zv_to Cx rfl rfl (ws' := (wD K (va_up A 16 w.1) O L q W P R (w.2, (capR C.2.2.2 O.2.2.2 O.1 O.2.1 O.2.2.1 C.2.1), nI (cstop O.1 O.2.1 O.2.2.1 + 1), O.2.2.2) M)) rfl ?_
  refine zv_go Cx okX8_joined [] 20 ?_
  refine ⟨fun h1 => ⟨rfl, ?_⟩, fun h1 => ?_⟩
  rotate_left
  · rw [bI_0, hasb_nI (by omega) (by omega), decide_eq_false_iff_not] at h1; exact absurd (by omega) h1
  refine zv_callV Cx (c_setOf K (A 15) (A 1) (A 2) (A 3) w.1 O.1 O.2.1 O.2.2.1 O.2.2.2 w.2 (capR C.2.2.2 O.2.2.2 O.1 O.2.1 O.2.2.1 C.2.1) (nI (cstop O.1 O.2.1 O.2.2.1 + 1)) O.2.2.2 (k := i) (by omega) hhi) (zw_V inX0_setOf kX8_138 ⟨by show 0 + 1 ≤ 6; omega, by show 8 + (2 + 11) + 0 ≤ 169; omega⟩) [15, 1, 2, 3, 16] 15 rfl rfl rfl rfl (fun _ => Nat.le_refl _) rfl rfl (by decide) dzX8_joined_29 (Nat.le_refl _) (Nat.le_refl _) rfl (fun _ _ => ?_)
  refine zv_to Cx rfl rfl (ws' := (wD K (va_up A 16 w.1) O L q W P R (w.2, (capR C.2.2.2 O.2.2.2 O.1 O.2.1 O.2.2.1 C.2.1), nI (cstop O.1 O.2.1 O.2.2.1 + 1), O.2.2.2) M)) rfl ?_
  refine zv_go Cx okX8_joined [] 4 ?_
  refine ⟨rfl, ?_⟩
  refine zv_callV Cx (c_setOf K (A 15) (A 1) (A 2) (A 3) w.1 O.1 O.2.1 O.2.2.1 O.2.2.2 w.2 (capR C.2.2.2 O.2.2.2 O.1 O.2.1 O.2.2.1 C.2.1) (nI (cstop O.1 O.2.1 O.2.2.1 + 1)) O.2.2.2 (k := j) (by omega) hhi) (zw_V inX0_setOf kX8_138 ⟨by show 0 + 1 ≤ 6; omega, by show 8 + (2 + 11) + 0 ≤ 169; omega⟩) [15, 1, 2, 3, 16] 15 rfl rfl rfl rfl (fun _ => Nat.le_refl _) rfl rfl (by decide) dzX8_joined_39 (Nat.le_refl _) (Nat.le_refl _) rfl (fun _ _ => ?_)
  refine zv_to Cx rfl rfl (ws' := (wD K (va_up A 16 w.1) O L q W P R (w.2, (capR C.2.2.2 O.2.2.2 O.1 O.2.1 O.2.2.1 C.2.1), nI (cstop O.1 O.2.1 O.2.2.1 + 1), O.2.2.2) M)) rfl ?_
  refine zv_go Cx okX8_joined [] 20 ?_
  refine ⟨rfl, fun h3 => ?_, fun h3 => ?_⟩
  · refine zv_to Cx rfl (st' := [.int (nI (if me = 0 then (cutv O.1 O.2.1 O.2.2.1 i) ||| (cutv O.1 O.2.1 O.2.2.1 j) else (cutv O.1 O.2.1 O.2.2.1 i) &&& (cutv O.1 O.2.1 O.2.2.1 j))), .ref (A 15)]) (by rw [if_pos h3, ← nb_or, ← hw.2 i hi, ← hw.2 j hj] <;> rfl) rfl ?_
    refine zv_callV Cx (c_numberOfLeast1 K (A 15) (A 1) (A 2) (A 3) w.1 O.1 O.2.1 O.2.2.1 O.2.2.2 w.2 (capR C.2.2.2 O.2.2.2 O.1 O.2.1 O.2.2.1 C.2.1) (nI (cstop O.1 O.2.1 O.2.2.1 + 1)) (s := (if me = 0 then (cutv O.1 O.2.1 O.2.2.1 i) ||| (cutv O.1 O.2.1 O.2.2.1 j) else (cutv O.1 O.2.1 O.2.2.1 i) &&& (cutv O.1 O.2.1 O.2.2.1 j))) hmx hn (by omega) hhi hw hge) (zw_V inX0_numberOfLeast kX8_144 ⟨by show 5 + 1 ≤ 6; omega, by show 8 + (4 + 11) + 146 ≤ 169; omega⟩) [15, 1, 2, 3, 16] 15 rfl rfl rfl rfl (fun _ => Nat.le_refl _) rfl rfl (by decide) dzX8_joined_65 (Nat.le_refl _) (Nat.le_refl _) rfl (fun y hy => ?_)
    exact zr Rx y (List.range 20) (some (.int _)) _ rfl rfl hy rfl rfl (Nat.le_refl _) (Nat.le_refl _) dzX8_joined_68
  · refine zv_to Cx rfl (st' := [.int (nI (if me = 0 then (cutv O.1 O.2.1 O.2.2.1 i) ||| (cutv O.1 O.2.1 O.2.2.1 j) else (cutv O.1 O.2.1 O.2.2.1 i) &&& (cutv O.1 O.2.1 O.2.2.1 j))), .ref (A 15)]) (by rw [if_neg h3, ← nb_and, ← hw.2 i hi, ← hw.2 j hj] <;> rfl) rfl ?_
    refine zv_callV Cx (c_numberOfLeast1 K (A 15) (A 1) (A 2) (A 3) w.1 O.1 O.2.1 O.2.2.1 O.2.2.2 w.2 (capR C.2.2.2 O.2.2.2 O.1 O.2.1 O.2.2.1 C.2.1) (nI (cstop O.1 O.2.1 O.2.2.1 + 1)) (s := (if me = 0 then (cutv O.1 O.2.1 O.2.2.1 i) ||| (cutv O.1 O.2.1 O.2.2.1 j) else (cutv O.1 O.2.1 O.2.2.1 i) &&& (cutv O.1 O.2.1 O.2.2.1 j))) hmx hn (by omega) hhi hw hge) (zw_V inX0_numberOfLeast kX8_144 ⟨by show 5 + 1 ≤ 6; omega, by show 8 + (4 + 11) + 146 ≤ 169; omega⟩) [15, 1, 2, 3, 16] 15 rfl rfl rfl rfl (fun _ => Nat.le_refl _) rfl rfl (by decide) dzX8_joined_65 (Nat.le_refl _) (Nat.le_refl _) rfl (fun y hy => ?_)
    exact zr Rx y (List.range 20) (some (.int _)) _ rfl rfl hy rfl rfl (Nat.le_refl _) (Nat.le_refl _) dzX8_joined_68
end ZF
