/-! THE DESK: count -/
section ZT
variable {x : zv_X} {l : Launch} {R : Room} {D : va_G} {cl : List vw_C} {tys : List (ClassId × FieldType)} {nL : Nat} {cc : ByteArray} {own : String} {Ts : List Jvm.Cond} {pc : Nat} {lv : zv_L} {st rest : List Value} {ws : va_W} {ce sl : Nat}
theorem zv_tabIn (C : zv_C x (l, R, D, cl, tys, nL, cc, own, Ts)) {dflt lo hi : Int} {offs : Array Int} {len : Nat} {v : Int32} {off : Int} {tgt : Nat} (hdg : decode cc pc = .ok (.tableswitch dflt lo hi offs, len)) (hst : st = .int v :: rest) (h1 : ¬ v.toInt < lo) (h2 : ¬ hi < v.toInt) (ho : offs[(v.toInt - lo).toNat]? = some off) (ht : (pc : Int) + off = (tgt : Int)) (k : zv_V x (l, R, D, cl, tys, nL, cc, own, Ts) tgt lv rest ws ce sl) : zv_V x (l, R, D, cl, tys, nL, cc, own, Ts) pc lv st ws ce sl := by
  subst hst
  obtain ⟨p, e, s, m, args, below, meth, c, A, Q⟩ := x
  obtain ⟨hx, hb, hml, hown, hts, hK, hA, hE, hct⟩ := C
  intro H locs ls hP hD hS hl
  exact lv_tableIn hx hb hdg h1 h2 ho ht (k H locs ls hP hD hS hl)
theorem zv_tabOut (C : zv_C x (l, R, D, cl, tys, nL, cc, own, Ts)) {dflt lo hi : Int} {offs : Array Int} {len : Nat} {v : Int32} {tgt : Nat} (hdg : decode cc pc = .ok (.tableswitch dflt lo hi offs, len)) (hst : st = .int v :: rest) (h : v.toInt < lo ∨ hi < v.toInt) (ht : (pc : Int) + dflt = (tgt : Int)) (k : zv_V x (l, R, D, cl, tys, nL, cc, own, Ts) tgt lv rest ws ce sl) : zv_V x (l, R, D, cl, tys, nL, cc, own, Ts) pc lv st ws ce sl := by
  subst hst
  obtain ⟨p, e, s, m, args, below, meth, c, A, Q⟩ := x
  obtain ⟨hx, hb, hml, hown, hts, hK, hA, hE, hct⟩ := C
  intro H locs ls hP hD hS hl
  exact lv_tableOut hx hb hdg h ht (k H locs ls hP hD hS hl)
end ZT
section ZG
variable (K : zK) (A : Nat → Nat) (O : dO) (L : dL) (q : zS) (W : dW) (P : dP) (R : dR) (C : dC) (M : dM)
set_option maxHeartbeats 4000000 in
set_option maxRecDepth 100000 in
theorem d_count_no (v : Int32) (h : v.toInt < 0 ∨ 5 < v.toInt) : zD K yX8_count cX8_count 2 (some .int) (zq 1 0 0 22) [.ref (A 0), .int v] (wD K A O L q W P R C M) (some (.int (-1))) (wD K A O L q W P R C M) := by
  refine zo (by decide) (Nat.le_of_ble_eq_true rfl) fun x Cx Rx _ => ?_
  refine zv_go Cx okX8_count [] 1 ?_
  refine zv_tabOut Cx dzX8_count_1 (tgt := 91) rfl h (by decide) ?_
  refine zv_go Cx okX8_count [] 20 ?_
  exact zr Rx () (List.range 20) (some (.int (-1))) _ rfl rfl trivial rfl rfl (Nat.zero_le _) (Nat.zero_le _) dzX8_count_92
set_option maxHeartbeats 4000000 in
set_option maxRecDepth 100000 in
theorem d_count0  : zD K yX8_count cX8_count 2 (some .int) (zq 1 0 0 22) [.ref (A 0), .int 0] (wD K A O L q W P R C M) (some (.int (nI O.2.2.1))) (wD K A O L q W P R C M) := by
  refine zo (by decide) (Nat.le_of_ble_eq_true rfl) fun x Cx Rx _ => ?_
  refine zv_go Cx okX8_count [] 1 ?_
  refine zv_tabIn Cx dzX8_count_1 (v := 0) (off := 39) (tgt := 40) rfl (by decide) (by decide) (by decide) (by decide) ?_
  refine zv_go Cx okX8_count [] 20 ?_
  refine ⟨rfl, rfl, ?_⟩
  exact zr Rx () (List.range 20) (some (.int _)) _ rfl rfl trivial rfl rfl (Nat.zero_le _) (Nat.zero_le _) dzX8_count_47
set_option maxHeartbeats 4000000 in
set_option maxRecDepth 100000 in
theorem d_count1 (hn : O.2.2.1 ≤ 14) (ha : ∀ j, O.2.1 j < 2 ^ 14) : zD K yX8_count cX8_count 2 (some .int) (zq 2 0 0 42) [.ref (A 0), .int 1] (wD K A O L q W P R C M) (some (.int (nI (osum O.2.1 O.2.2.1)))) (wD K A O L q W P R C M) := by
  refine zo (by decide) (Nat.le_of_ble_eq_true rfl) fun x Cx Rx _ => ?_
  refine zv_go Cx okX8_count [] 1 ?_
  refine zv_tabIn Cx dzX8_count_1 (v := 1) (off := 47) (tgt := 48) rfl (by decide) (by decide) (by decide) (by decide) ?_
  refine zv_go Cx okX8_count [] 2 ?_
  refine ⟨rfl, ?_⟩
  refine zv_callV Cx (c_pairs K (A 1) (A 2) (A 3) O.1 O.2.1 O.2.2.1 O.2.2.2 hn ha) (zw_V inX4_pairs kX8_92 ⟨by decide, by decide⟩) [1, 2, 3] 1 rfl rfl rfl rfl (fun _ => Nat.le_refl _) rfl rfl (by decide) dzX8_count_52 (by decide) (by decide) rfl (fun _ _ => ?_)
  exact zr Rx () (List.range 20) (some (.int _)) _ rfl rfl trivial rfl rfl (Nat.zero_le _) (Nat.zero_le _) dzX8_count_55
set_option maxHeartbeats 4000000 in
set_option maxRecDepth 100000 in
theorem d_count2 (hn : O.2.2.1 ≤ 14) (ha : ∀ j, O.2.1 j < 2 ^ 14) (hs : L.2.2.2 = O.2.2.2 → lcV O.2.1 O.2.2.1 L.2.2.1 L.2.1) : zM (S := (Nat → Int32) × (Nat → Int32)) K yX8_count cX8_count 2 (some .int) (zq 4 0 0 85) [.ref (A 0), .int 2] (wD K A O L q W P R C M) (fun u => lcV O.2.1 O.2.2.1 (nI (plen O.2.1 O.2.2.1)) u.2) (fun _ => some (.int (nI (plen O.2.1 O.2.2.1)))) (fun u => wD K A O (u.1, u.2, nI (plen O.2.1 O.2.2.1), O.2.2.2) q W P R C M) := by
  refine zo (by decide) (Nat.le_of_ble_eq_true rfl) fun x Cx Rx _ => ?_
  refine zv_go Cx okX8_count [] 1 ?_
  refine zv_tabIn Cx dzX8_count_1 (v := 2) (off := 55) (tgt := 56) rfl (by decide) (by decide) (by decide) (by decide) ?_
  refine zv_go Cx okX8_count [] 2 ?_
  refine ⟨rfl, ?_⟩
  refine zv_callV Cx (c_lcLength K (A 4) (A 1) (A 2) (A 3) (A 5) (A 6) O.1 O.2.1 O.2.2.1 O.2.2.2 L.1 L.2.1 L.2.2.1 L.2.2.2 hn ha hs) (zw_V inX1_length kX8_96 ⟨by decide, by decide⟩) [4, 1, 2, 3, 5, 6] 4 rfl rfl rfl rfl (fun _ => Nat.le_refl _) rfl rfl (by decide) dzX8_count_60 (by decide) (by decide) rfl (fun u hu => ?_)
  exact zr Rx u (List.range 20) (some (.int _)) _ rfl rfl hu rfl rfl (Nat.zero_le _) (Nat.zero_le _) dzX8_count_63
set_option maxHeartbeats 4000000 in
set_option maxRecDepth 100000 in
theorem d_count3 (hn : O.2.2.1 ≤ 14) (ha : ∀ j, O.2.1 j < 2 ^ 14) {ap : Nat} (hapl : ap < 2 ^ 14) (hap : (if W.2 = O.2.2.2 then W.1 else nI (capt O.1 O.2.1 O.2.2.1)) = nI ap) : zM (S := zS) K yX8_count cX8_count 2 (some .int) (zq 20 0 0 456) [.ref (A 0), .int 3] (wD K A O L q W P R C M) (fun _ => True) (fun _ => some (.int (nI (npc 14 ap)))) (fun u => wD K A O L u (nI ap, O.2.2.2) P R C M) := by
  refine zo (by decide) (Nat.le_of_ble_eq_true rfl) fun x Cx Rx _ => ?_
  refine zv_go Cx okX8_count [] 1 ?_
  refine zv_tabIn Cx dzX8_count_1 (v := 3) (off := 63) (tgt := 64) rfl (by decide) (by decide) (by decide) (by decide) ?_
  refine zv_go Cx okX8_count [] 2 ?_
  refine ⟨rfl, ?_⟩
  refine zv_callV Cx (c_asSet K (A 9) (A 7) (A 1) (A 2) (A 3) (A 8) O.1 O.2.1 O.2.2.1 O.2.2.2 q W.1 W.2 hn ha) (zw_V inX7_asSet kX8_99 ⟨by decide, by decide⟩) [9, 7, 1, 2, 3, 8] 9 rfl rfl rfl rfl (fun _ => Nat.le_refl _) rfl rfl (by decide) dzX8_count_68 (by decide) (by decide) rfl (fun u hu => ?_)
  refine zv_to Cx rfl (st' := [.int (nI ap)]) (by rw [← hap] <;> rfl) (ws' := wD K A O L u (nI ap, O.2.2.2) P R C M) (by rw [← hap] <;> rfl) ?_
  refine zv_callS Cx (c_bitCount K hapl) (zw_S inJ6_bitCount_0f7a4 kX8_102 ⟨by decide, by decide⟩) [] rfl rfl (fun _ => Nat.le_refl _) rfl rfl (by decide) dzX8_count_71 (by decide) (by decide) rfl (fun _ _ => ?_)
  exact zr Rx u (List.range 20) (some (.int _)) _ rfl rfl trivial rfl rfl (Nat.zero_le _) (Nat.zero_le _) dzX8_count_74
set_option maxHeartbeats 4000000 in
set_option maxRecDepth 100000 in
theorem d_count4 (hn : O.2.2.1 ≤ 14) (hb : ∀ j, O.1 j < 2 ^ 14) (hp : pw2 R.2.2.1) (hs : R.2.2.2.2.1 = O.2.2.2 → rbV O.1 O.2.2.1 R.2.2.1 R.1 R.2.2.2.1) : zM (S := Nat × Nat × (Nat → Int64)) K yX8_count cX8_count 2 (some .int) (zqB 4 R.2.2.2.2.1 O.2.2.2 O.2.2.1 R.2.2.1 88) [.ref (A 0), .int 4] (wD K A O L q W P R C M) (fun u => R.2.2.2.2.1 = O.2.2.2 → u.2.2 = R.2.1) (fun _ => some (.int (nI (rIdl O.1 O.2.2.1)))) (fun u => wD K (va_up (va_up A 13 u.1) 14 u.2.1) O L q W P (rBeg O.1 O.2.2.1, u.2.2, (capB R.2.2.2.2.1 O.2.2.2 O.2.2.1 R.2.2.1), nI (rIdl O.1 O.2.2.1), O.2.2.2, R.2.2.2.2.2) C M) := by
  refine zo (by decide) (Nat.le_of_ble_eq_true rfl) fun x Cx Rx _ => ?_
  refine zv_go Cx okX8_count [] 1 ?_
  refine zv_tabIn Cx dzX8_count_1 (v := 4) (off := 74) (tgt := 75) rfl (by decide) (by decide) (by decide) (by decide) ?_
  refine zv_go Cx okX8_count [] 2 ?_
  refine ⟨rfl, ?_⟩
  refine zv_callV Cx (c_ideals K (A 12) (A 1) (A 2) (A 3) (A 13) (A 14) O.1 O.2.1 O.2.2.1 O.2.2.2 R.1 R.2.1 R.2.2.1 R.2.2.2.1 R.2.2.2.2.1 R.2.2.2.2.2 hn hb hp hs) (zw_V inX6_ideals kX8_107 ⟨by show 3 + 1 ≤ 4; omega, by show 8 + (1 + 11) + 68 ≤ 88; omega⟩) [12, 1, 2, 3, 13, 14] 12 rfl rfl rfl rfl (fun _ => Nat.le_refl _) rfl rfl (by decide) dzX8_count_79 (Nat.le_of_eq (Nat.zero_add _)) (Nat.le_of_eq (Nat.zero_add _)) rfl (fun u hu => ?_)
  exact zr Rx u (List.range 20) (some (.int _)) _ rfl rfl hu rfl rfl (Nat.le_of_eq (Nat.zero_add _)) (Nat.le_of_eq (Nat.zero_add _)) dzX8_count_82
set_option maxHeartbeats 4000000 in
set_option maxRecDepth 100000 in
theorem d_count5 (hn : O.2.2.1 ≤ 14) (h0 : 0 < C.2.1) (hcap : C.2.1 ≤ 32768) (hs : C.2.2.2 = O.2.2.2 → clV O.1 O.2.1 O.2.2.1 C.2.2.1 C.1 ∧ cstop O.1 O.2.1 O.2.2.1 + 1 ≤ C.2.1) : zM (S := Nat × (Nat → Int32)) K yX8_count cX8_count 2 (some .int) (zqC 6 C.2.2.2 O.2.2.2 O.1 O.2.1 O.2.2.1 C.2.1 166) [.ref (A 0), .int 5] (wD K A O L q W P R C M) (fun u => clV O.1 O.2.1 O.2.2.1 (nI (cstop O.1 O.2.1 O.2.2.1 + 1)) u.2) (fun _ => some (.int (nI (cstop O.1 O.2.1 O.2.2.1 + 1)))) (fun u => (wD K (va_up A 16 u.1) O L q W P R (u.2, (capR C.2.2.2 O.2.2.2 O.1 O.2.1 O.2.2.1 C.2.1), nI (cstop O.1 O.2.1 O.2.2.1 + 1), O.2.2.2) M)) := by
  refine zo (by decide) (Nat.le_of_ble_eq_true rfl) fun x Cx Rx _ => ?_
  refine zv_go Cx okX8_count [] 1 ?_
  refine zv_tabIn Cx dzX8_count_1 (v := 5) (off := 82) (tgt := 83) rfl (by decide) (by decide) (by decide) (by decide) ?_
  refine zv_go Cx okX8_count [] 2 ?_
  refine ⟨rfl, ?_⟩
  refine zv_callV Cx (c_clLength K (A 15) (A 1) (A 2) (A 3) (A 16) O.1 O.2.1 O.2.2.1 O.2.2.2 C.1 C.2.1 C.2.2.1 C.2.2.2 hn h0 hcap (fun z => (hs z).1)) (zw_V inX0_length kX8_110 ⟨by show 5 + 1 ≤ 6; omega, by show 8 + (1 + 11) + 146 ≤ 166; omega⟩) [15, 1, 2, 3, 16] 15 rfl rfl rfl rfl (fun _ => Nat.le_refl _) rfl rfl (by decide) dzX8_count_87 (Nat.le_of_eq (Nat.zero_add _)) (Nat.le_of_eq (Nat.zero_add _)) rfl (fun u hu => ?_)
  exact zr Rx u (List.range 20) (some (.int _)) _ rfl rfl hu rfl rfl (Nat.le_of_eq (Nat.zero_add _)) (Nat.le_of_eq (Nat.zero_add _)) dzX8_count_90
end ZG
