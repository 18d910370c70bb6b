/-! ROW TABLE: refresh, total, ideals, rowsOnFrom, rowsWithStep -/
def pw2 (cap : Nat) : Prop := ∃ c, cap = 2 ^ c ∧ 4 ≤ c ∧ c ≤ 14
theorem pw2_le {cap : Nat} (h : pw2 cap) : 16 ≤ cap ∧ cap ≤ 16384 := by
  obtain ⟨c, rfl, h1, h2⟩ := h
  exact ⟨Nat.pow_le_pow_right (n := 2) (by decide) h1, pow_le14 h2⟩
theorem pw2_up {cap n : Nat} (h : pw2 cap) (hn : n ≤ 14) : (cap < 2 ^ n → 2 * cap ≤ 2 ^ n ∧ 2 ≤ cap) ∧ pw2 (capM cap (2 ^ n)) := by
  have h16 := pw2_le h
  obtain ⟨c, rfl, h1, h2⟩ := h
  have hlt : 2 ^ c < 2 ^ n → c < n := fun q => by
    rcases Nat.lt_or_ge c n with z | z
    · exact z
    · exact absurd (Nat.pow_le_pow_right (n := 2) (by decide) z) (by omega)
  refine ⟨fun q => ⟨?_, by omega⟩, ?_⟩
  · have h3 := hlt q
    have h4 : 2 ^ (c + 1) ≤ 2 ^ n := Nat.pow_le_pow_right (by decide) h3
    rw [Nat.pow_succ] at h4
    omega
  · unfold capM
    split
    · rename_i q
      have h3 := hlt q
      exact ⟨n, rfl, by omega, hn⟩
    · exact ⟨c, rfl, h1, h2⟩
def capB (bs ver : Int32) (n cap : Nat) : Nat := if bs = ver then cap else capM cap (2 ^ n)
abbrev zqB (f : Nat) (bs ver : Int32) (n cap l : Nat) : Room := zq f (capB bs ver n cap - cap) (4 * (capB bs ver n cap - cap)) l
/-- what the table keeps of the beginnings is true -/
def rbV (bl : Nat → Nat) (n cap : Nat) (B : Nat → Int64) (idl : Int32) : Prop := B = rBeg bl n ∧ idl = nI (rIdl bl n) ∧ 2 ^ n ≤ cap
def reV (bl : Nat → Nat) (n : Nat) (E : Nat → Int64) : Prop := ∃ E0, E = ceS bl n (rBeg bl n) E0 (2 ^ n - 1)
theorem capB_ok {bs ver : Int32} {n cap : Nat} (hp : pw2 cap) (hn : n ≤ 14) (hs : bs = ver → 2 ^ n ≤ cap) : 2 ^ n ≤ capB bs ver n cap ∧ capB bs ver n cap ≤ 16384 ∧ pw2 (capB bs ver n cap) := by
  have h := pw2_le hp
  have h2 := pow_le14 hn
  unfold capB
  split
  · exact ⟨hs (by assumption), h.2, hp⟩
  · have h3 := (pw2_up hp hn).2
    refine ⟨?_, (pw2_le h3).2, h3⟩
    unfold capM
    split <;> omega
set_option maxHeartbeats 4000000 in
set_option maxRecDepth 100000 in
theorem c_refreshB (K : zK) (r o b a g e : Nat) (bl ab : Nat → Nat) (n : Nat) (ver : Int32) (B E : Nat → Int64) (cap : Nat) (idl bs es : Int32) (hn : n ≤ 14) (hb : ∀ j, bl j < 2 ^ 14) (hp : pw2 cap) (hs : bs = ver → rbV bl n cap B idl) :
    zM (S := Nat × Nat × (Nat → Int64)) K yX6_refreshBeginnings cX6_refreshBeginnings 1 none (zqB 2 bs ver n cap 48) [.ref r] (wR K r o b a g e bl ab n ver B E cap idl bs es) (fun u => bs = ver → u.2.2 = E) (fun _ => none) (fun u => wR K r o b a u.1 u.2.1 bl ab n ver (rBeg bl n) u.2.2 (capB bs ver n cap) (nI (rIdl bl n)) ver es) := by
  have hc := pw2_le hp
  have hp14 := pow_le14 hn
  refine zo (by decide) (Nat.le_of_ble_eq_true rfl) fun x C R _ => ?_
  refine zv_go C okX6_refreshBeginnings [] 20 ?_
  refine ⟨rfl, rfl, rfl, fun h => ?_, fun h => ⟨rfl, rfl, rfl, rfl, rfl, ?_⟩⟩
  · have h : bs = ver := h
    subst h
    obtain ⟨v1, v2, -⟩ := hs rfl
    have e1 : capB bs bs n cap = cap := if_pos rfl
    exact zr R (g, e, E) [0, 1, 2, 3, 4, 5] none (wR K r o b a g e bl ab n bs B E cap idl bs es) rfl (by rw [e1, v1, v2]) (fun _ => rfl) rfl rfl (Nat.zero_le _) (Nat.zero_le _) dzX6_refreshBeginnings_42
  · have h : ¬ bs = ver := h
    have e1 : capB bs ver n cap = capM cap (2 ^ n) := if_neg h
    obtain ⟨u1, u2⟩ := pw2_up hp hn
    refine zv_to C rfl (st' := [.int (nI (2 ^ n)), .ref r]) (by rw [← nb_1s n (by omega)] <;> rfl) rfl ?_
    refine zv_callV C (c_makeRoom K r o b a g e bl ab n ver B E cap (2 ^ n) idl ver es hc.2 hp14 u1) (zw_V inX6_makeRoom kX6_73 ⟨by show 0 + 1 ≤ 2; omega, by show 8 + (2 + 11) + 0 ≤ 48; omega⟩) [0, 1, 2, 3, 4, 5] 0 rfl rfl rfl rfl (fun _ => Nat.le_refl _) rfl rfl (by decide) dzX6_refreshBeginnings_35 (by show 0 + (capM cap (2 ^ n) - cap) ≤ capB bs ver n cap - cap; rw [e1]; omega) (by show 0 + 4 * (capM cap (2 ^ n) - cap) ≤ 4 * (capB bs ver n cap - cap); rw [e1]; omega) rfl (fun u hu => ?_)
    refine zv_to C rfl rfl (ws' := wR K r o b a u.1 u.2.1 bl ab n ver u.2.2.1 u.2.2.2 (capM cap (2 ^ n)) idl ver es) rfl ?_
    refine zv_go C okX6_refreshBeginnings [] 1 ?_
    refine zv_callV C (c_countBeginnings K r o b a u.1 u.2.1 bl ab n ver u.2.2.1 u.2.2.2 (capM cap (2 ^ n)) idl ver es hn hb (by unfold capM; split <;> omega) (pw2_le u2).2) (zw_V inX6_countBeginnings kX6_77 ⟨by show 1 + 1 ≤ 2; omega, by show 8 + (3 + 11) + 26 ≤ 48; omega⟩) [0, 1, 2, 3, 4, 5] 0 rfl rfl rfl rfl (fun _ => Nat.le_refl _) rfl rfl (by decide) dzX6_refreshBeginnings_39 (by show 0 + (capM cap (2 ^ n) - cap) + 0 ≤ capB bs ver n cap - cap; rw [e1]; omega) (by show 0 + 4 * (capM cap (2 ^ n) - cap) + 0 ≤ 4 * (capB bs ver n cap - cap); rw [e1]; omega) rfl (fun _ _ => ?_)
    exact zr R (u.1, u.2.1, u.2.2.2) [0, 1, 2, 3, 4, 5] none (wR K r o b a u.1 u.2.1 bl ab n ver (rBeg bl n) u.2.2.2 (capM cap (2 ^ n)) (nI (rIdl bl n)) ver es) rfl (by rw [e1]) (fun q => absurd q h) rfl rfl (by show 0 + (capM cap (2 ^ n) - cap) + 0 ≤ capB bs ver n cap - cap; rw [e1]; omega) (by show 0 + 4 * (capM cap (2 ^ n) - cap) + 0 ≤ 4 * (capB bs ver n cap - cap); rw [e1]; omega) dzX6_refreshBeginnings_42
set_option maxHeartbeats 4000000 in
set_option maxRecDepth 100000 in
theorem c_refreshE (K : zK) (r o b a g e : Nat) (bl ab : Nat → Nat) (n : Nat) (ver : Int32) (B E : Nat → Int64) (cap : Nat) (idl bs es : Int32) (hn : n ≤ 14) (hb : ∀ j, bl j < 2 ^ 14) (hp : pw2 cap) (hs : bs = ver → rbV bl n cap B idl) (he : es = ver → bs = ver ∧ reV bl n E) :
    zM (S := Nat × Nat × (Nat → Int64)) K yX6_refreshEndings cX6_refreshEndings 1 none (zqB 3 bs ver n cap 68) [.ref r] (wR K r o b a g e bl ab n ver B E cap idl bs es) (fun u => reV bl n u.2.2) (fun _ => none) (fun u => wR K r o b a u.1 u.2.1 bl ab n ver (rBeg bl n) u.2.2 (capB bs ver n cap) (nI (rIdl bl n)) ver ver) := by
  have hcb := capB_ok hp hn (fun q => (hs q).2.2)
  refine zo (by decide) (Nat.le_of_ble_eq_true rfl) fun x C R _ => ?_
  refine zv_go C okX6_refreshEndings [] 1 ?_
  refine zv_callV C (c_refreshB K r o b a g e bl ab n ver B E cap idl bs es hn hb hp hs) (zw_V inX6_refreshBeginnings kX6_29 ⟨by show 2 + 1 ≤ 3; omega, by show 8 + (1 + 11) + 48 ≤ 68; omega⟩) [0, 1, 2, 3, 4, 5] 0 rfl rfl rfl rfl (fun _ => Nat.le_refl _) rfl rfl (by decide) dzX6_refreshEndings_1 (Nat.le_of_eq (Nat.zero_add _)) (Nat.le_of_eq (Nat.zero_add _)) rfl (fun u hu => ?_)
  refine zv_to C rfl rfl (ws' := wR K r o b a u.1 u.2.1 bl ab n ver (rBeg bl n) u.2.2 (capB bs ver n cap) (nI (rIdl bl n)) ver es) rfl ?_
  refine zv_wide C (ce' := capB bs ver n cap - cap) (sl' := 4 * (capB bs ver n cap - cap)) (Nat.le_of_eq (Nat.zero_add _)) (Nat.le_of_eq (Nat.zero_add _)) ?_
  refine zv_go C okX6_refreshEndings [] 20 ?_
  refine ⟨rfl, rfl, rfl, fun h => ?_, fun h => ⟨rfl, rfl, rfl, ?_⟩⟩
  · have h : es = ver := h
    subst h
    obtain ⟨q1, q2⟩ := he rfl
    exact zr R u [0, 1, 2, 3, 4, 5] none _ rfl rfl (by rw [hu q1]; exact q2) rfl rfl (Nat.le_refl _) (Nat.le_refl _) dzX6_refreshEndings_33
  · refine zv_callV C (c_countEndings K r o b a u.1 u.2.1 bl ab n ver (rBeg bl n) u.2.2 (capB bs ver n cap) (nI (rIdl bl n)) ver ver hn hb hcb.1 hcb.2.1) (zw_V inX6_countEndings kX6_80 ⟨by show 1 + 1 ≤ 3; omega, by show 8 + (3 + 11) + 26 ≤ 68; omega⟩) [0, 1, 2, 3, 4, 5] 0 rfl rfl rfl rfl (fun _ => Nat.le_refl _) rfl rfl (by decide) dzX6_refreshEndings_30 (Nat.le_refl _) (Nat.le_refl _) rfl (fun _ _ => ?_)
    exact zr R (u.1, u.2.1, _) [0, 1, 2, 3, 4, 5] none _ rfl rfl ⟨_, rfl⟩ rfl rfl (Nat.le_refl _) (Nat.le_refl _) dzX6_refreshEndings_33
set_option maxHeartbeats 4000000 in
set_option maxRecDepth 100000 in
theorem c_total (K : zK) (r o b a g e : Nat) (bl ab : Nat → Nat) (n : Nat) (ver : Int32) (B E : Nat → Int64) (cap : Nat) (idl bs es : Int32) (hn : n ≤ 14) (hb : ∀ j, bl j < 2 ^ 14) (hp : pw2 cap) (hs : bs = ver → rbV bl n cap B idl) :
    zM (S := Nat × Nat × (Nat → Int64)) K yX6_total cX6_total 1 (some .long) (zqB 3 bs ver n cap 68) [.ref r] (wR K r o b a g e bl ab n ver B E cap idl bs es) (fun u => bs = ver → u.2.2 = E) (fun _ => some (.long (rBeg bl n (2 ^ n - 1)))) (fun u => wR K r o b a u.1 u.2.1 bl ab n ver (rBeg bl n) u.2.2 (capB bs ver n cap) (nI (rIdl bl n)) ver es) := by
  have hcb := capB_ok hp hn (fun q => (hs q).2.2)
  have hpos : 0 < 2 ^ n := Nat.two_pow_pos n
  refine zo (by decide) (Nat.le_of_ble_eq_true rfl) fun x C R _ => ?_
  refine zv_go C okX6_total [] 1 ?_
  refine zv_callV C (c_refreshB K r o b a g e bl ab n ver B E cap idl bs es hn hb hp hs) (zw_V inX6_refreshBeginnings kX6_29 ⟨by show 2 + 1 ≤ 3; omega, by show 8 + (1 + 11) + 48 ≤ 68; omega⟩) [0, 1, 2, 3, 4, 5] 0 rfl rfl rfl rfl (fun _ => Nat.le_refl _) rfl rfl (by decide) dzX6_total_1 (Nat.le_of_eq (Nat.zero_add _)) (Nat.le_of_eq (Nat.zero_add _)) rfl (fun u hu => ?_)
  refine zv_to C rfl rfl (ws' := wR K r o b a u.1 u.2.1 bl ab n ver (rBeg bl n) u.2.2 (capB bs ver n cap) (nI (rIdl bl n)) ver es) rfl ?_
  refine zv_wide C (ce' := capB bs ver n cap - cap) (sl' := 4 * (capB bs ver n cap - cap)) (Nat.le_of_eq (Nat.zero_add _)) (Nat.le_of_eq (Nat.zero_add _)) ?_
  refine zv_go C okX6_total [] 20 ?_
  refine ⟨rfl, rfl, ?_⟩
  refine zv_callV C (c_all K o b a bl ab n ver hn) (zw_V inX4_all kX6_32 ⟨by show 0 + 1 ≤ 3; omega, by show 8 + (1 + 11) + 0 ≤ 68; omega⟩) [1, 2, 3] 1 rfl rfl rfl rfl (fun _ => Nat.le_refl _) (rest := [.ref u.1]) rfl rfl (Nat.le_of_ble_eq_true rfl) dzX6_total_12 (Nat.le_refl _) (Nat.le_refl _) rfl (fun _ _ => ?_)
  refine zv_to C rfl rfl (ws' := wR K r o b a u.1 u.2.1 bl ab n ver (rBeg bl n) u.2.2 (capB bs ver n cap) (nI (rIdl bl n)) ver es) rfl ?_
  refine zv_go C okX6_total [] 20 ?_
  refine ⟨⟨rfl, rfl⟩, vp_in_nI (by omega) (by omega), ?_⟩
  exact zr R u [0, 1, 2, 3, 4, 5] (some (.long _)) _ (by rw [nI_clamp (by omega)]) rfl hu rfl rfl (Nat.le_refl _) (Nat.le_refl _) dzX6_total_16
set_option maxHeartbeats 4000000 in
set_option maxRecDepth 100000 in
theorem c_ideals (K : zK) (r o b a g e : Nat) (bl ab : Nat → Nat) (n : Nat) (ver : Int32) (B E : Nat → Int64) (cap : Nat) (idl bs es : Int32) (hn : n ≤ 14) (hb : ∀ j, bl j < 2 ^ 14) (hp : pw2 cap) (hs : bs = ver → rbV bl n cap B idl) :
    zM (S := Nat × Nat × (Nat → Int64)) K yX6_ideals cX6_ideals 1 (some .int) (zqB 3 bs ver n cap 68) [.ref r] (wR K r o b a g e bl ab n ver B E cap idl bs es) (fun u => bs = ver → u.2.2 = E) (fun _ => some (.int (nI (rIdl bl n)))) (fun u => wR K r o b a u.1 u.2.1 bl ab n ver (rBeg bl n) u.2.2 (capB bs ver n cap) (nI (rIdl bl n)) ver es) := by
  refine zo (by decide) (Nat.le_of_ble_eq_true rfl) fun x C R _ => ?_
  refine zv_go C okX6_ideals [] 1 ?_
  refine zv_callV C (c_refreshB K r o b a g e bl ab n ver B E cap idl bs es hn hb hp hs) (zw_V inX6_refreshBeginnings kX6_29 ⟨by show 2 + 1 ≤ 3; omega, by show 8 + (1 + 11) + 48 ≤ 68; omega⟩) [0, 1, 2, 3, 4, 5] 0 rfl rfl rfl rfl (fun _ => Nat.le_refl _) rfl rfl (by decide) dzX6_ideals_1 (Nat.le_of_eq (Nat.zero_add _)) (Nat.le_of_eq (Nat.zero_add _)) rfl (fun u hu => ?_)
  refine zv_to C rfl rfl (ws' := wR K r o b a u.1 u.2.1 bl ab n ver (rBeg bl n) u.2.2 (capB bs ver n cap) (nI (rIdl bl n)) ver es) rfl ?_
  refine zv_go C okX6_ideals [] 20 ?_
  refine ⟨rfl, ?_⟩
  exact zr R u [0, 1, 2, 3, 4, 5] (some (.int _)) _ rfl rfl hu rfl rfl (Nat.le_of_eq (Nat.zero_add _)) (Nat.le_of_eq (Nat.zero_add _)) dzX6_ideals_8
/-- in how many ways a row goes on with v -/
def rof (bl : Nat → Nat) (E : Nat → Int64) (p v : Nat) : Int64 := if ndf (bl v ||| 2 ^ v) p = 2 ^ v then E (p ||| 2 ^ v) else 0
set_option maxHeartbeats 4000000 in
set_option maxRecDepth 100000 in
theorem c_rowsOnFrom (K : zK) (r o b a g e : Nat) (bl ab : Nat → Nat) (n : Nat) (ver : Int32) (B E : Nat → Int64) (cap : Nat) (idl bs es : Int32) {p v : Nat} (hp : p < 2 ^ n) (hv : v < n) (hn : n ≤ 14) (hb : ∀ j, bl j < 2 ^ 14) (hcap : 2 ^ n ≤ cap) (hc : cap ≤ 16384) :
    zD K yX6_rowsOnFrom cX6_rowsOnFrom 3 (some .long) (zq 2 0 0 43) [.ref r, .int (nI p), .int (nI v)] (wR K r o b a g e bl ab n ver B E cap idl bs es) (some (.long (rof bl E p v))) (wR K r o b a g e bl ab n ver B E cap idl bs es) := by
  have htl : p ||| 2 ^ v < 2 ^ n := nb_lt_or hp (nb_lt_pow hv)
  refine zo (by decide) (Nat.le_of_ble_eq_true rfl) fun x C R _ => ?_
  refine zv_go C okX6_rowsOnFrom [] 4 ?_
  refine ⟨rfl, ?_⟩
  refine zv_callV C (c_canFollow K o b a bl ab n ver (s := p) (v := v) (by omega) (hb v)) (zw_V inX4_canFollow kX6_66 ⟨by decide, by decide⟩) [1, 2, 3] 1 rfl rfl rfl rfl (fun _ => Nat.le_refl _) rfl rfl (by decide) dzX6_rowsOnFrom_6 (by decide) (by decide) rfl (fun _ _ => ?_)
  refine zv_to C rfl rfl (ws' := wR K r o b a g e bl ab n ver B E cap idl bs es) rfl ?_
  refine zv_go C okX6_rowsOnFrom [] 20 ?_
  have etg : nI p ||| (1 : Int32) <<< (nI v &&& 31) = nI (p ||| 2 ^ v) := by rw [nb_1s v (by omega), nb_or]
  refine ⟨fun h => ?_, fun h => ⟨rfl, ⟨rfl, rfl⟩, ?_, ?_⟩⟩
  · rw [bI_0, decide_eq_false_iff_not] at h
    exact zr R () [0, 1, 2, 3, 4, 5] (some (.long 0)) _ (by unfold rof; rw [if_neg h]) rfl trivial rfl rfl (Nat.le_refl _) (Nat.le_refl _) dzX6_rowsOnFrom_26
  · show vp_in (nI p ||| (1 : Int32) <<< (nI v &&& 31)) cap
    rw [etg]
    exact vp_in_nI (by omega) (by omega)
  · rw [bI_1, decide_eq_true_eq] at h
    refine zr R () [0, 1, 2, 3, 4, 5] (some (.long _)) _ ?_ rfl trivial rfl rfl (Nat.le_refl _) (Nat.le_refl _) dzX6_rowsOnFrom_26
    show _ = some (Value.long (E (nI p ||| (1 : Int32) <<< (nI v &&& 31)).toNatClampNeg))
    rw [etg, nI_clamp (by omega)]
    unfold rof
    rw [if_pos h]
set_option maxHeartbeats 4000000 in
set_option maxRecDepth 100000 in
theorem c_rowsWithStep (K : zK) (r o b a g e : Nat) (bl ab : Nat → Nat) (n : Nat) (ver : Int32) (B E : Nat → Int64) (cap : Nat) (idl bs es : Int32) {p v : Nat} (hp : p < 2 ^ n) (hv : v < n) (hn : n ≤ 14) (hb : ∀ j, bl j < 2 ^ 14) (hcap : 2 ^ n ≤ cap) (hc : cap ≤ 16384) :
    zD K yX6_rowsWithStep cX6_rowsWithStep 3 (some .long) (zq 3 0 0 65) [.ref r, .int (nI p), .int (nI v)] (wR K r o b a g e bl ab n ver B E cap idl bs es) (some (.long (B p * rof bl E p v))) (wR K r o b a g e bl ab n ver B E cap idl bs es) := by
  have ec : (nI p).toNatClampNeg = p := nI_clamp (by omega)
  refine zo (by decide) (Nat.le_of_ble_eq_true rfl) fun x C R _ => ?_
  refine zv_go C okX6_rowsWithStep [] 20 ?_
  refine ⟨rfl, ⟨rfl, rfl⟩, vp_in_nI (by omega) (by omega), ?_⟩
  refine zv_to C rfl (st' := [.int (nI v), .int (nI p), .ref r, .long (B p)]) (by show [_, _, _, Value.long (B (nI p).toNatClampNeg)] = _; rw [ec] <;> rfl) rfl ?_
  refine zv_callV C (c_rowsOnFrom K r o b a g e bl ab n ver B E cap idl bs es hp hv hn hb hcap hc) (zw_V inX6_rowsOnFrom kX6_54 ⟨by decide, by decide⟩) [0, 1, 2, 3, 4, 5] 0 rfl rfl rfl rfl (fun _ => Nat.le_refl _) (rest := [.long (B p)]) rfl rfl (Nat.le_of_ble_eq_true rfl) dzX6_rowsWithStep_9 (by decide) (by decide) rfl (fun _ _ => ?_)
  refine zv_to C rfl rfl (ws' := wR K r o b a g e bl ab n ver B E cap idl bs es) rfl ?_
  refine zv_go C okX6_rowsWithStep [] 20 ?_
  exact zr R () [0, 1, 2, 3, 4, 5] (some (.long _)) _ rfl rfl trivial rfl rfl (Nat.le_refl _) (Nat.le_refl _) dzX6_rowsWithStep_13
