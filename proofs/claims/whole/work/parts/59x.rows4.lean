/-! ROW TABLE: rowsWithFirst, rowsWithPlace -/
def rwf (bl : Nat → Nat) (B E : Nat → Int64) (i j : Nat) : Nat → Int64
  | 0 => 0
  | k + 1 => if k.testBit i = true ∧ ¬ B k = 0 then rwf bl B E i j k + B k * rof bl E k j else rwf bl B E i j k
set_option maxHeartbeats 4000000 in
set_option maxRecDepth 100000 in
theorem c_rowsWithFirst (K : zK) (r o b a g e : Nat) (bl ab : Nat → Nat) (n : Nat) (ver : Int32) (B E : Nat → Int64) (cap : Nat) (idl bs es : Int32) {i j : Nat} (hi : i < n) (hj : j < n) (hn : n ≤ 14) (hb : ∀ j, bl j < 2 ^ 14) (hp : pw2 cap) (hs : bs = ver → rbV bl n cap B idl) (he : es = ver → bs = ver ∧ reV bl n E) :
    zM (S := Nat × Nat × (Nat → Int64)) K yX6_rowsWithFirst cX6_rowsWithFirst 7 (some .long) (zqB 4 bs ver n cap 88) [.ref r, .int (nI i), .int (nI j)] (wR K r o b a g e bl ab n ver B E cap idl bs es) (fun u => reV bl n u.2.2) (fun u => some (.long (rwf bl (rBeg bl n) u.2.2 i j (2 ^ n)))) (fun u => wR K r o b a u.1 u.2.1 bl ab n ver (rBeg bl n) u.2.2 (capB bs ver n cap) (nI (rIdl bl n)) ver ver) := by
  have hcb := capB_ok hp hn (fun q => (hs q).2.2)
  have hpos : 0 < 2 ^ n := Nat.two_pow_pos n
  have hp14 := pow_le14 hn
  refine zo (by decide) (Nat.le_of_ble_eq_true rfl) fun x C R _ => ?_
  refine zv_go C okX6_rowsWithFirst [] 1 ?_
  refine zv_callV C (c_refreshE K r o b a g e bl ab n ver B E cap idl bs es hn hb hp hs he) (zw_V inX6_refreshEndings kX6_41 ⟨by show 3 + 1 ≤ 4; omega, by show 8 + (1 + 11) + 68 ≤ 88; omega⟩) [0, 1, 2, 3, 4, 5] 0 rfl rfl rfl rfl (fun _ => Nat.le_refl _) rfl rfl (by decide) dzX6_rowsWithFirst_1 (Nat.le_of_eq (Nat.zero_add _)) (Nat.le_of_eq (Nat.zero_add _)) rfl (fun u hu => ?_)
  refine zv_to C rfl rfl (ws' := wR K r o b a u.1 u.2.1 bl ab n ver (rBeg bl n) u.2.2 (capB bs ver n cap) (nI (rIdl bl n)) ver ver) rfl ?_
  refine zv_wide C (ce' := capB bs ver n cap - cap) (sl' := 4 * (capB bs ver n cap - cap)) (Nat.le_of_eq (Nat.zero_add _)) (Nat.le_of_eq (Nat.zero_add _)) ?_
  refine zv_go C okX6_rowsWithFirst [] 2 ?_
  refine ⟨rfl, ?_⟩
  refine zv_callV C (c_all K o b a bl ab n ver hn) (zw_V inX4_all kX6_32 ⟨by show 0 + 1 ≤ 4; omega, by show 8 + (1 + 11) + 0 ≤ 88; omega⟩) [1, 2, 3] 1 rfl rfl rfl rfl (fun _ => Nat.le_refl _) rfl rfl (by decide) dzX6_rowsWithFirst_8 (Nat.le_refl _) (Nat.le_refl _) rfl (fun _ _ => ?_)
  refine zv_to C rfl rfl (ws' := wR K r o b a u.1 u.2.1 bl ab n ver (rBeg bl n) u.2.2 (capB bs ver n cap) (nI (rIdl bl n)) ver ver) rfl ?_
  have loop : ∀ mm k, k + mm = 2 ^ n → zv_V x (gz K (zqB 4 bs ver n cap 88) 7 cX6_rowsWithFirst yX6_rowsWithFirst.cls) 18 [(0, .ref r), (1, .int (nI i)), (2, .int (nI j)), (3, .int (nI (2 ^ n - 1))), (4, .long (rwf bl (rBeg bl n) u.2.2 i j k)), (6, .int (nI k))] [] (wR K r o b a u.1 u.2.1 bl ab n ver (rBeg bl n) u.2.2 (capB bs ver n cap) (nI (rIdl bl n)) ver ver) (capB bs ver n cap - cap) (4 * (capB bs ver n cap - cap)) := by
    intro mm
    induction mm with
    | zero =>
      intro k hk
      have e1 : k = 2 ^ n := by omega
      subst e1
      refine zv_go C okX6_rowsWithFirst [] 20 ?_
      refine ⟨fun _ => ?_, fun h => absurd (nI_lt (by omega) (by omega)) h⟩
      exact zr R u [0, 1, 2, 3, 4, 5] (some (.long _)) _ rfl rfl hu rfl rfl (Nat.le_refl _) (Nat.le_refl _) dzX6_rowsWithFirst_65
    | succ mm ih =>
      intro k hk
      have ec : (nI k).toNatClampNeg = k := nI_clamp (by omega)
      refine zv_go C okX6_rowsWithFirst [18] 30 ?_
      refine ⟨fun h => absurd h (nI_nlt (by omega) (by omega)), fun _ => ⟨fun h => ?_, fun h => ⟨rfl, ⟨rfl, rfl⟩, vp_in_nI (by omega) (by omega), fun h2 => ?_, fun h2 => ?_⟩⟩⟩
      · rw [nb_t0 (by omega) (by omega)] at h
        refine zv_to C (lv' := [(0, .ref r), (1, .int (nI i)), (2, .int (nI j)), (3, .int (nI (2 ^ n - 1))), (4, .long (rwf bl (rBeg bl n) u.2.2 i j (k + 1))), (6, .int (nI (k + 1)))]) ?_ rfl rfl (ih (k + 1) (by omega))
        rw [rwf, if_neg (fun q => by rw [q.1] at h; cases h), ← nI_1]
        rfl
      · have h2 : lg_cmp (rBeg bl n (nI k).toNatClampNeg) 0 = 0 := h2
        rw [lg_c0, ec] at h2
        refine zv_to C (lv' := [(0, .ref r), (1, .int (nI i)), (2, .int (nI j)), (3, .int (nI (2 ^ n - 1))), (4, .long (rwf bl (rBeg bl n) u.2.2 i j (k + 1))), (6, .int (nI (k + 1)))]) ?_ rfl rfl (ih (k + 1) (by omega))
        rw [rwf, if_neg (fun q => q.2 h2), ← nI_1]
        rfl
      · rw [nb_t1 (by omega) (by omega)] at h
        have h2 : ¬ lg_cmp (rBeg bl n (nI k).toNatClampNeg) 0 = 0 := h2
        rw [lg_c0, ec] at h2
        refine zv_callV C (c_rowsWithStep K r o b a u.1 u.2.1 bl ab n ver (rBeg bl n) u.2.2 (capB bs ver n cap) (nI (rIdl bl n)) ver ver (p := k) (v := j) (by omega) hj hn hb hcb.1 hcb.2.1) (zw_V inX6_rowsWithStep kX6_44 ⟨by show 3 + 1 ≤ 4; omega, by show 8 + (3 + 11) + 65 ≤ 88; omega⟩) [0, 1, 2, 3, 4, 5] 0 rfl rfl rfl rfl (fun _ => Nat.le_refl _) (rest := [.long (rwf bl (rBeg bl n) u.2.2 i j k)]) rfl rfl (Nat.le_of_ble_eq_true rfl) dzX6_rowsWithFirst_51 (Nat.le_refl _) (Nat.le_refl _) rfl (fun _ _ => ?_)
        refine zv_to C rfl rfl (ws' := wR K r o b a u.1 u.2.1 bl ab n ver (rBeg bl n) u.2.2 (capB bs ver n cap) (nI (rIdl bl n)) ver ver) rfl ?_
        refine zv_go C okX6_rowsWithFirst [18] 30 ?_
        refine zv_to C (lv' := [(0, .ref r), (1, .int (nI i)), (2, .int (nI j)), (3, .int (nI (2 ^ n - 1))), (4, .long (rwf bl (rBeg bl n) u.2.2 i j (k + 1))), (6, .int (nI (k + 1)))]) ?_ rfl rfl (ih (k + 1) (by omega))
        rw [rwf, if_pos ⟨h, h2⟩, ← nI_1]
        rfl
  refine zv_go C okX6_rowsWithFirst [18] 20 ?_
  exact loop (2 ^ n) 0 (by omega)
def rwp (bl : Nat → Nat) (B E : Nat → Int64) (v pl : Nat) : Nat → Int64
  | 0 => 0
  | k + 1 => if ¬ B k = 0 ∧ npc 14 k = pl then rwp bl B E v pl k + B k * rof bl E k v else rwp bl B E v pl k
set_option maxHeartbeats 4000000 in
set_option maxRecDepth 100000 in
theorem c_rowsWithPlace (K : zK) (r o b a g e : Nat) (bl ab : Nat → Nat) (n : Nat) (ver : Int32) (B E : Nat → Int64) (cap : Nat) (idl bs es : Int32) {v pl : Nat} (hv : v < n) (hpl : pl < n) (hn : n ≤ 14) (hb : ∀ j, bl j < 2 ^ 14) (hp : pw2 cap) (hs : bs = ver → rbV bl n cap B idl) (he : es = ver → bs = ver ∧ reV bl n E) :
    zM (S := Nat × Nat × (Nat → Int64)) K yX6_rowsWithPlace cX6_rowsWithPlace 7 (some .long) (zqB 4 bs ver n cap 88) [.ref r, .int (nI v), .int (nI pl)] (wR K r o b a g e bl ab n ver B E cap idl bs es) (fun u => reV bl n u.2.2) (fun u => some (.long (rwp bl (rBeg bl n) u.2.2 v pl (2 ^ n)))) (fun u => wR K r o b a u.1 u.2.1 bl ab n ver (rBeg bl n) u.2.2 (capB bs ver n cap) (nI (rIdl bl n)) ver ver) := by
  have hcb := capB_ok hp hn (fun q => (hs q).2.2)
  have hpos : 0 < 2 ^ n := Nat.two_pow_pos n
  have hp14 := pow_le14 hn
  refine zo (by decide) (Nat.le_of_ble_eq_true rfl) fun x C R _ => ?_
  refine zv_go C okX6_rowsWithPlace [] 1 ?_
  refine zv_callV C (c_refreshE K r o b a g e bl ab n ver B E cap idl bs es hn hb hp hs he) (zw_V inX6_refreshEndings kX6_41 ⟨by show 3 + 1 ≤ 4; omega, by show 8 + (1 + 11) + 68 ≤ 88; omega⟩) [0, 1, 2, 3, 4, 5] 0 rfl rfl rfl rfl (fun _ => Nat.le_refl _) rfl rfl (by decide) dzX6_rowsWithPlace_1 (Nat.le_of_eq (Nat.zero_add _)) (Nat.le_of_eq (Nat.zero_add _)) rfl (fun u hu => ?_)
  refine zv_to C rfl rfl (ws' := wR K r o b a u.1 u.2.1 bl ab n ver (rBeg bl n) u.2.2 (capB bs ver n cap) (nI (rIdl bl n)) ver ver) rfl ?_
  refine zv_wide C (ce' := capB bs ver n cap - cap) (sl' := 4 * (capB bs ver n cap - cap)) (Nat.le_of_eq (Nat.zero_add _)) (Nat.le_of_eq (Nat.zero_add _)) ?_
  refine zv_go C okX6_rowsWithPlace [] 2 ?_
  refine ⟨rfl, ?_⟩
  refine zv_callV C (c_all K o b a bl ab n ver hn) (zw_V inX4_all kX6_32 ⟨by show 0 + 1 ≤ 4; omega, by show 8 + (1 + 11) + 0 ≤ 88; omega⟩) [1, 2, 3] 1 rfl rfl rfl rfl (fun _ => Nat.le_refl _) rfl rfl (by decide) dzX6_rowsWithPlace_8 (Nat.le_refl _) (Nat.le_refl _) rfl (fun _ _ => ?_)
  refine zv_to C rfl rfl (ws' := wR K r o b a u.1 u.2.1 bl ab n ver (rBeg bl n) u.2.2 (capB bs ver n cap) (nI (rIdl bl n)) ver ver) rfl ?_
  have loop : ∀ mm k, k + mm = 2 ^ n → zv_V x (gz K (zqB 4 bs ver n cap 88) 7 cX6_rowsWithPlace yX6_rowsWithPlace.cls) 18 [(0, .ref r), (1, .int (nI v)), (2, .int (nI pl)), (3, .int (nI (2 ^ n - 1))), (4, .long (rwp bl (rBeg bl n) u.2.2 v pl k)), (6, .int (nI k))] [] (wR K r o b a u.1 u.2.1 bl ab n ver (rBeg bl n) u.2.2 (capB bs ver n cap) (nI (rIdl bl n)) ver ver) (capB bs ver n cap - cap) (4 * (capB bs ver n cap - cap)) := by
    intro mm
    induction mm with
    | zero =>
      intro k hk
      have e1 : k = 2 ^ n := by omega
      subst e1
      refine zv_go C okX6_rowsWithPlace [] 20 ?_
      refine ⟨fun _ => ?_, fun h => absurd (nI_lt (by omega) (by omega)) h⟩
      exact zr R u [0, 1, 2, 3, 4, 5] (some (.long _)) _ rfl rfl hu rfl rfl (Nat.le_refl _) (Nat.le_refl _) dzX6_rowsWithPlace_65
    | succ mm ih =>
      intro k hk
      have ec : (nI k).toNatClampNeg = k := nI_clamp (by omega)
      have hk14 : k < 2 ^ 14 := by omega
      have hpc := npc_le 14 k
      refine zv_go C okX6_rowsWithPlace [18] 30 ?_
      refine ⟨fun h => absurd h (nI_nlt (by omega) (by omega)), fun _ => ⟨rfl, ⟨rfl, rfl⟩, vp_in_nI (by omega) (by omega), fun h => ?_, fun h => ?_⟩⟩
      · have h : lg_cmp (rBeg bl n (nI k).toNatClampNeg) 0 = 0 := h
        rw [lg_c0, ec] at h
        refine zv_to C (lv' := [(0, .ref r), (1, .int (nI v)), (2, .int (nI pl)), (3, .int (nI (2 ^ n - 1))), (4, .long (rwp bl (rBeg bl n) u.2.2 v pl (k + 1))), (6, .int (nI (k + 1)))]) ?_ rfl rfl (ih (k + 1) (by omega))
        rw [rwp, if_neg (fun q => q.1 h), ← nI_1]
        rfl
      · have h : ¬ lg_cmp (rBeg bl n (nI k).toNatClampNeg) 0 = 0 := h
        rw [lg_c0, ec] at h
        refine zv_callS C (c_bitCount K hk14) (zw_S inJ6_bitCount_0f7a4 kX6_48 ⟨by show 0 + 1 ≤ 4; omega, by show 8 + (1 + 11) + 0 ≤ 88; omega⟩) [] rfl rfl (fun _ => Nat.le_refl _) rfl rfl (by decide) dzX6_rowsWithPlace_38 (Nat.le_refl _) (Nat.le_refl _) rfl (fun _ _ => ?_)
        refine zv_to C rfl rfl (ws' := wR K r o b a u.1 u.2.1 bl ab n ver (rBeg bl n) u.2.2 (capB bs ver n cap) (nI (rIdl bl n)) ver ver) rfl ?_
        refine zv_go C okX6_rowsWithPlace [18] 30 ?_
        refine ⟨fun h2 => ?_, fun h2 => ?_⟩
        · rw [nb_inj (by omega) (by omega)] at h2
          refine zv_to C (lv' := [(0, .ref r), (1, .int (nI v)), (2, .int (nI pl)), (3, .int (nI (2 ^ n - 1))), (4, .long (rwp bl (rBeg bl n) u.2.2 v pl (k + 1))), (6, .int (nI (k + 1)))]) ?_ rfl rfl (ih (k + 1) (by omega))
          rw [rwp, if_neg (fun q => h2 q.2), ← nI_1]
          rfl
        · rw [nb_inj (by omega) (by omega)] at h2
          refine zv_callV C (c_rowsWithStep K r o b a u.1 u.2.1 bl ab n ver (rBeg bl n) u.2.2 (capB bs ver n cap) (nI (rIdl bl n)) ver ver (p := k) (v := v) (by omega) hv hn hb hcb.1 hcb.2.1) (zw_V inX6_rowsWithStep kX6_44 ⟨by show 3 + 1 ≤ 4; omega, by show 8 + (3 + 11) + 65 ≤ 88; omega⟩) [0, 1, 2, 3, 4, 5] 0 rfl rfl rfl rfl (fun _ => Nat.le_refl _) (rest := [.long (rwp bl (rBeg bl n) u.2.2 v pl k)]) rfl rfl (Nat.le_of_ble_eq_true rfl) dzX6_rowsWithPlace_51 (Nat.le_refl _) (Nat.le_refl _) rfl (fun _ _ => ?_)
          refine zv_to C rfl rfl (ws' := wR K r o b a u.1 u.2.1 bl ab n ver (rBeg bl n) u.2.2 (capB bs ver n cap) (nI (rIdl bl n)) ver ver) rfl ?_
          refine zv_go C okX6_rowsWithPlace [18] 30 ?_
          refine zv_to C (lv' := [(0, .ref r), (1, .int (nI v)), (2, .int (nI pl)), (3, .int (nI (2 ^ n - 1))), (4, .long (rwp bl (rBeg bl n) u.2.2 v pl (k + 1))), (6, .int (nI (k + 1)))]) ?_ rfl rfl (ih (k + 1) (by omega))
          rw [rwp, if_pos ⟨h, h2⟩, ← nI_1]
          rfl
  refine zv_go C okX6_rowsWithPlace [18] 20 ?_
  exact loop (2 ^ n) 0 (by omega)
