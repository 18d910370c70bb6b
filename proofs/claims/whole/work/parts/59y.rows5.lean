/-! ROW TABLE: rowNumbered, numberOf -/
def rnV (bl : Nat → Nat) (n : Nat) (E : Nat → Int64) (p : Nat) : Nat → Int64 → Nat × Int64
  | 0, l => (n - 1, l)
  | m + 1, l => if rof bl E p (n - 1 - (m + 1)) ≤ l then rnV bl n E p m (l - rof bl E p (n - 1 - (m + 1))) else (n - 1 - (m + 1), l)
theorem rnV_lt {bl : Nat → Nat} {n : Nat} {E : Nat → Int64} {p : Nat} (h1 : 1 ≤ n) : ∀ m l, (rnV bl n E p m l).1 < n
  | 0, l => by show n - 1 < n; omega
  | m + 1, l => by
    unfold rnV
    split
    · exact rnV_lt h1 m _
    · show n - 1 - (m + 1) < n; omega
/-- the run over the places that are left -/
def rnF (bl : Nat → Nat) (n : Nat) (E : Nat → Int64) : Nat → Int64 → Int64 → Nat → Int64
  | 0, _, rw, _ => rw
  | m + 1, l, rw, p => rnF bl n E m (rnV bl n E p (n - 1) l).2 (rw ||| ((nI (rnV bl n E p (n - 1) l).1).toInt64 <<< ((nI (4 * (n - (m + 1)))).toInt64 &&& 63))) (p ||| 2 ^ (rnV bl n E p (n - 1) l).1)
def rnR (bl : Nat → Nat) (n : Nat) (E : Nat → Int64) (k : Int64) : Int64 := if k < 0 ∨ E 0 ≤ k then -1 else rnF bl n E n k 0 0
set_option maxHeartbeats 4000000 in
set_option maxRecDepth 100000 in
theorem c_rowNumbered (K : zK) (r o b a g e : Nat) (bl ab : Nat → Nat) (n : Nat) (ver : Int32) (B E : Nat → Int64) (cap : Nat) (idl bs es : Int32) (k : Int64) (h1 : 1 ≤ n) (hn : n ≤ 14) (hb : ∀ j, bl j < 2 ^ 14) (hp : pw2 cap) (hs : bs = ver → rbV bl n cap B idl) (he : es = ver → bs = ver ∧ reV bl n E) :
    zM (S := Nat × Nat × (Nat → Int64)) K yX6_rowNumbered cX6_rowNumbered 10 (some .long) (zqB 4 bs ver n cap 88) [.ref r, .long k] (wR K r o b a g e bl ab n ver B E cap idl bs es) (fun u => reV bl n u.2.2) (fun u => some (.long (rnR bl n u.2.2 k))) (fun u => wR K r o b a u.1 u.2.1 bl ab n ver (rBeg bl n) u.2.2 (capB bs ver n cap) (nI (rIdl bl n)) ver ver) := by
  have hcb := capB_ok hp hn (fun q => (hs q).2.2)
  have hpos : 0 < 2 ^ n := Nat.two_pow_pos n
  have hp14 := pow_le14 hn
  have en1 : nI n - 1 = nI (n - 1) := by
    have e1 : (1 : Int32) = nI 1 := rfl
    rw [e1, pk_sub h1]
  refine zo (by decide) (Nat.le_of_ble_eq_true rfl) fun x C R _ => ?_
  refine zv_go C okX6_rowNumbered [] 1 ?_
  refine zv_callV C (c_refreshE K r o b a g e bl ab n ver B E cap idl bs es hn hb hp hs he) (zw_V inX6_refreshEndings kX6_41 ⟨by show 3 + 1 ≤ 4; omega, by show 8 + (1 + 11) + 68 ≤ 88; omega⟩) [0, 1, 2, 3, 4, 5] 0 rfl rfl rfl rfl (fun _ => Nat.le_refl _) rfl rfl (by decide) dzX6_rowNumbered_1 (Nat.le_of_eq (Nat.zero_add _)) (Nat.le_of_eq (Nat.zero_add _)) rfl (fun u hu => ?_)
  refine zv_to C rfl rfl (ws' := wR K r o b a u.1 u.2.1 bl ab n ver (rBeg bl n) u.2.2 (capB bs ver n cap) (nI (rIdl bl n)) ver ver) rfl ?_
  refine zv_wide C (ce' := capB bs ver n cap - cap) (sl' := 4 * (capB bs ver n cap - cap)) (Nat.le_of_eq (Nat.zero_add _)) (Nat.le_of_eq (Nat.zero_add _)) ?_
  -- the inner run, with what comes behind it
  have inner : ∀ (i p : Nat) (rw' : Int64), i < n → p < 2 ^ n → (∀ v l, (v < n) → zv_V x (gz K (zqB 4 bs ver n cap 88) 10 cX6_rowNumbered yX6_rowNumbered.cls) 95 [(0, .ref r), (1, .long k), (3, .long l), (5, .long rw'), (7, .int (nI p)), (8, .int (nI i)), (9, .int (nI v))] [] (wR K r o b a u.1 u.2.1 bl ab n ver (rBeg bl n) u.2.2 (capB bs ver n cap) (nI (rIdl bl n)) ver ver) (capB bs ver n cap - cap) (4 * (capB bs ver n cap - cap)) ∨ True) → ∀ m l (res : Nat × Int64), m ≤ n - 1 → rnV bl n u.2.2 p m l = res → zv_V x (gz K (zqB 4 bs ver n cap 88) 10 cX6_rowNumbered yX6_rowNumbered.cls) 95 [(0, .ref r), (1, .long k), (3, .long res.2), (5, .long rw'), (7, .int (nI p)), (8, .int (nI i)), (9, .int (nI res.1))] [] (wR K r o b a u.1 u.2.1 bl ab n ver (rBeg bl n) u.2.2 (capB bs ver n cap) (nI (rIdl bl n)) ver ver) (capB bs ver n cap - cap) (4 * (capB bs ver n cap - cap)) → zv_V x (gz K (zqB 4 bs ver n cap 88) 10 cX6_rowNumbered yX6_rowNumbered.cls) 51 [(0, .ref r), (1, .long k), (3, .long l), (5, .long rw'), (7, .int (nI p)), (8, .int (nI i)), (9, .int (nI (n - 1 - m)))] [] (wR K r o b a u.1 u.2.1 bl ab n ver (rBeg bl n) u.2.2 (capB bs ver n cap) (nI (rIdl bl n)) ver ver) (capB bs ver n cap - cap) (4 * (capB bs ver n cap - cap)) := by
    intro i p rw' hi hpp _ m
    induction m with
    | zero =>
      intro l res _ hres hk
      subst hres
      refine zv_go C okX6_rowNumbered [95] 20 ?_
      refine ⟨rfl, rfl, fun _ => ?_, fun h => ?_⟩
      · exact hk
      · have h : ¬ nI n - 1 ≤ nI (n - 1 - 0) := h
        rw [en1] at h
        exact absurd (nI_le (by omega) (by omega)) h
    | succ m ih =>
      intro l res hm hres hk
      have enx : nI (n - 1 - (m + 1)) + 1 = nI (n - 1 - m) := by rw [nI_1]; congr 1; omega
      have hvlt : n - 1 - (m + 1) < n := by omega
      refine zv_go C okX6_rowNumbered [95] 20 ?_
      refine ⟨rfl, rfl, fun h => ?_, fun _ => ?_⟩
      · have h : nI n - 1 ≤ nI (n - 1 - (m + 1)) := h
        rw [en1] at h
        exact absurd h (nI_ge (by omega) (by omega))
      refine zv_callV C (c_rowsOnFrom K r o b a u.1 u.2.1 bl ab n ver (rBeg bl n) u.2.2 (capB bs ver n cap) (nI (rIdl bl n)) ver ver (p := p) (v := n - 1 - (m + 1)) hpp hvlt hn hb hcb.1 hcb.2.1) (zw_V inX6_rowsOnFrom kX6_54 ⟨by show 2 + 1 ≤ 4; omega, by show 8 + (3 + 11) + 43 ≤ 88; omega⟩) [0, 1, 2, 3, 4, 5] 0 rfl rfl rfl rfl (fun _ => Nat.le_refl _) (rest := [.long l]) rfl rfl (Nat.le_of_ble_eq_true rfl) dzX6_rowNumbered_71 (Nat.le_refl _) (Nat.le_refl _) rfl (fun _ _ => ?_)
      refine zv_to C rfl rfl (ws' := wR K r o b a u.1 u.2.1 bl ab n ver (rBeg bl n) u.2.2 (capB bs ver n cap) (nI (rIdl bl n)) ver ver) rfl ?_
      refine zv_go C okX6_rowNumbered [95] 20 ?_
      refine ⟨fun h => ?_, fun h => ?_⟩
      · rw [lg_cmp_lt] at h
        rw [rnV, if_neg (Int64.not_le.mpr h)] at hres
        subst hres
        exact hk
      · rw [lg_cmp_lt] at h
        rw [rnV, if_pos (Int64.not_lt.mp h)] at hres
        refine zv_callV C (c_rowsOnFrom K r o b a u.1 u.2.1 bl ab n ver (rBeg bl n) u.2.2 (capB bs ver n cap) (nI (rIdl bl n)) ver ver (p := p) (v := n - 1 - (m + 1)) hpp hvlt hn hb hcb.1 hcb.2.1) (zw_V inX6_rowsOnFrom kX6_54 ⟨by show 2 + 1 ≤ 4; omega, by show 8 + (3 + 11) + 43 ≤ 88; omega⟩) [0, 1, 2, 3, 4, 5] 0 rfl rfl rfl rfl (fun _ => Nat.le_refl _) (rest := [.long l]) rfl rfl (Nat.le_of_ble_eq_true rfl) dzX6_rowNumbered_84 (Nat.le_refl _) (Nat.le_refl _) rfl (fun _ _ => ?_)
        refine zv_to C rfl rfl (ws' := wR K r o b a u.1 u.2.1 bl ab n ver (rBeg bl n) u.2.2 (capB bs ver n cap) (nI (rIdl bl n)) ver ver) rfl ?_
        refine zv_go C okX6_rowNumbered [51] 20 ?_
        exact zv_to C (lv' := [(0, .ref r), (1, .long k), (3, .long (l - rof bl u.2.2 p (n - 1 - (m + 1)))), (5, .long rw'), (7, .int (nI p)), (8, .int (nI i)), (9, .int (nI (n - 1 - m)))]) (by rw [← enx] <;> rfl) rfl rfl (ih _ res (by omega) hres hk)
  have loop : ∀ m (l rw' : Int64) (p : Nat) (lv2 : zv_L), m ≤ n → p < 2 ^ n → ¬ (k < 0 ∨ u.2.2 0 ≤ k) → rnF bl n u.2.2 m l rw' p = rnF bl n u.2.2 n k 0 0 → (lv2 = [] ∨ ∃ z, lv2 = [(9, .int z)]) → zv_V x (gz K (zqB 4 bs ver n cap 88) 10 cX6_rowNumbered yX6_rowNumbered.cls) 36 ([(0, .ref r), (1, .long k), (3, .long l), (5, .long rw'), (7, .int (nI p)), (8, .int (nI (n - m)))] ++ lv2) [] (wR K r o b a u.1 u.2.1 bl ab n ver (rBeg bl n) u.2.2 (capB bs ver n cap) (nI (rIdl bl n)) ver ver) (capB bs ver n cap - cap) (4 * (capB bs ver n cap - cap)) := by
    intro m
    induction m with
    | zero =>
      intro l rw' p lv2 _ hpp hko hf hl2
      refine zv_drop C [0, 1, 2, 3, 4, 5] (lv' := [(0, .ref r), (1, .long k), (3, .long l), (5, .long rw'), (7, .int (nI p)), (8, .int (nI (n - 0)))]) (by rcases hl2 with rfl | ⟨z, rfl⟩ <;> rfl) ?_
      refine zv_go C okX6_rowNumbered [] 20 ?_
      refine ⟨rfl, rfl, fun _ => ?_, fun h => absurd (nI_le (by omega) (by omega)) h⟩
      exact zr R u [0, 1, 2, 3, 4, 5] (some (.long _)) _ (by unfold rnR; rw [if_neg hko, ← hf] <;> rfl) rfl hu rfl rfl (Nat.le_refl _) (Nat.le_refl _) dzX6_rowNumbered_125
    | succ m ih =>
      intro l rw' p lv2 hm hpp hko hf hl2
      have enx : nI (n - (m + 1)) + 1 = nI (n - m) := by rw [nI_1]; congr 1; omega
      refine zv_drop C [0, 1, 2, 3, 4, 5] (lv' := [(0, .ref r), (1, .long k), (3, .long l), (5, .long rw'), (7, .int (nI p)), (8, .int (nI (n - (m + 1))))]) (by rcases hl2 with rfl | ⟨z, rfl⟩ <;> rfl) ?_
      refine zv_go C okX6_rowNumbered [51] 20 ?_
      refine ⟨rfl, rfl, fun h => absurd h (nI_ge (by omega) (by omega)), fun _ => ?_⟩
      have hv := rnV_lt (bl := bl) (E := u.2.2) (p := p) h1 (n - 1) l
      refine zv_to C (lv' := [(0, .ref r), (1, .long k), (3, .long l), (5, .long rw'), (7, .int (nI p)), (8, .int (nI (n - (m + 1)))), (9, .int (nI (n - 1 - (n - 1))))]) (by rw [Nat.sub_self] <;> rfl) rfl rfl (inner (n - (m + 1)) p rw' (by omega) hpp (fun _ _ _ => Or.inr trivial) (n - 1) l _ (Nat.le_refl _) rfl ?_)
      rw [rnF] at hf
      generalize hres : rnV bl n u.2.2 p (n - 1) l = res at hf hv ⊢
      refine zv_go C okX6_rowNumbered [36] 30 ?_
      refine zv_to C (lv' := [(0, .ref r), (1, .long k), (3, .long res.2), (5, .long (rw' ||| ((nI res.1).toInt64 <<< ((nI (4 * (n - (m + 1)))).toInt64 &&& 63)))), (7, .int (nI (p ||| 2 ^ res.1))), (8, .int (nI (n - m))), (9, .int (nI res.1))]) ?_ rfl rfl (ih res.2 _ _ [(9, .int (nI res.1))] (by omega) (nb_lt_or hpp (nb_lt_pow hv)) hko hf (Or.inr ⟨_, rfl⟩))
      rw [← enx, ← nb_or, ← nb_1s res.1 (by omega), ← pk_mul]
      rfl
  refine zv_go C okX6_rowNumbered [36] 30 ?_
  refine ⟨fun h => ?_, fun h => ⟨rfl, ⟨rfl, rfl⟩, vp_in_nI (n := 0) (by omega) (by omega), fun h2 => ?_, fun h2 => ?_⟩⟩
  · rw [lg_cmp_lt] at h
    exact zr R u [0, 1, 2, 3, 4, 5] (some (.long (-1))) _ (by unfold rnR; rw [if_pos (Or.inl h)]) rfl hu rfl rfl (Nat.le_refl _) (Nat.le_refl _) dzX6_rowNumbered_24
  · rw [lg_cmp_lt] at h h2
    have h2 : k < u.2.2 0 := h2
    refine zv_to C (lv' := [(0, .ref r), (1, .long k), (3, .long k), (5, .long 0), (7, .int (nI 0)), (8, .int (nI (n - n)))]) (by rw [Nat.sub_self] <;> rfl) rfl rfl (loop n k 0 0 [] (Nat.le_refl _) hpos (fun q => q.elim h (fun z => absurd h2 (Int64.not_lt.mpr z))) rfl (Or.inl rfl))
  · rw [lg_cmp_lt] at h2
    have h2 : ¬ k < u.2.2 0 := h2
    exact zr R u [0, 1, 2, 3, 4, 5] (some (.long (-1))) _ (by unfold rnR; rw [if_pos (Or.inr (Int64.not_lt.mp h2))]) rfl hu rfl rfl (Nat.le_refl _) (Nat.le_refl _) dzX6_rowNumbered_24
/-- the thing that a told row has at place i -/
def dgI (row : Int64) (i : Nat) : Int32 := (row.toUInt64 >>> ((nI (4 * i)).toInt64.toUInt64 &&& Int64.toUInt64 63)).toInt64.toInt32 &&& 15
def dgt (row : Int64) (i : Nat) : Nat := (dgI row i).toNatClampNeg
theorem dgt_ok (row : Int64) (i : Nat) : dgI row i = nI (dgt row i) ∧ dgt row i < 16 := by
  obtain ⟨j, hj, e⟩ := pk_andE (row.toUInt64 >>> ((nI (4 * i)).toInt64.toUInt64 &&& Int64.toUInt64 63)).toInt64.toInt32 (m := 15) 4 (by decide)
  have e : dgI row i = nI j := e
  have e2 : dgt row i = j := by unfold dgt; rw [e]; exact nI_clamp (by omega)
  exact ⟨by rw [e2]; exact e, by rw [e2]; exact hj⟩
def rhi (row : Int64) (n : Nat) : Int64 := (row.toUInt64 >>> ((nI (4 * n)).toInt64.toUInt64 &&& Int64.toUInt64 63)).toInt64
def nsm (bl : Nat → Nat) (E : Nat → Int64) (num : Int64) (p : Nat) : Nat → Int64
  | 0 => num
  | l + 1 => nsm bl E num p l + rof bl E p l
def nmF (bl : Nat → Nat) (n : Nat) (E : Nat → Int64) (row : Int64) : Nat → Int64 → Nat → Int64
  | 0, num, _ => num
  | m + 1, num, p => if dgt row (n - (m + 1)) < n ∧ ndf (bl (dgt row (n - (m + 1))) ||| 2 ^ dgt row (n - (m + 1))) p = 2 ^ dgt row (n - (m + 1)) then nmF bl n E row m (nsm bl E num p (dgt row (n - (m + 1)))) (p ||| 2 ^ dgt row (n - (m + 1))) else -1
def nmR (bl : Nat → Nat) (n : Nat) (E : Nat → Int64) (row : Int64) : Int64 := if rhi row n = 0 then nmF bl n E row n 0 0 else -1
theorem hasb_nI {n j : Nat} (hn : n < 2 ^ 31) (hj : j < 2 ^ 31) : hasb n (nI j) = decide (j < n) := by
  unfold hasb
  congr 1
  exact propext ⟨fun q => (nI_ltI hj hn).mp q.2, fun q => ⟨nI_pos' hj, nI_lt q hn⟩⟩
set_option maxHeartbeats 4000000 in
set_option maxRecDepth 100000 in
theorem c_numberOf (K : zK) (r o b a g e : Nat) (bl ab : Nat → Nat) (n : Nat) (ver : Int32) (B E : Nat → Int64) (cap : Nat) (idl bs es : Int32) (row : Int64) (hn : n ≤ 14) (hb : ∀ j, bl j < 2 ^ 14) (hp : pw2 cap) (hs : bs = ver → rbV bl n cap B idl) (he : es = ver → bs = ver ∧ reV bl n E) :
    zM (S := Nat × Nat × (Nat → Int64)) K yX6_numberOf cX6_numberOf 9 (some .long) (zqB 4 bs ver n cap 88) [.ref r, .long row] (wR K r o b a g e bl ab n ver B E cap idl bs es) (fun u => reV bl n u.2.2) (fun u => some (.long (nmR bl n u.2.2 row))) (fun u => wR K r o b a u.1 u.2.1 bl ab n ver (rBeg bl n) u.2.2 (capB bs ver n cap) (nI (rIdl bl n)) ver ver) := by
  have hcb := capB_ok hp hn (fun q => (hs q).2.2)
  have hpos : 0 < 2 ^ n := Nat.two_pow_pos n
  have hp14 := pow_le14 hn
  refine zo (by decide) (Nat.le_of_ble_eq_true rfl) fun x C R _ => ?_
  refine zv_go C okX6_numberOf [] 1 ?_
  refine zv_callV C (c_refreshE K r o b a g e bl ab n ver B E cap idl bs es hn hb hp hs he) (zw_V inX6_refreshEndings kX6_41 ⟨by show 3 + 1 ≤ 4; omega, by show 8 + (1 + 11) + 68 ≤ 88; omega⟩) [0, 1, 2, 3, 4, 5] 0 rfl rfl rfl rfl (fun _ => Nat.le_refl _) rfl rfl (by decide) dzX6_numberOf_1 (Nat.le_of_eq (Nat.zero_add _)) (Nat.le_of_eq (Nat.zero_add _)) rfl (fun u hu => ?_)
  refine zv_to C rfl rfl (ws' := wR K r o b a u.1 u.2.1 bl ab n ver (rBeg bl n) u.2.2 (capB bs ver n cap) (nI (rIdl bl n)) ver ver) rfl ?_
  refine zv_wide C (ce' := capB bs ver n cap - cap) (sl' := 4 * (capB bs ver n cap - cap)) (Nat.le_of_eq (Nat.zero_add _)) (Nat.le_of_eq (Nat.zero_add _)) ?_
  have inner : ∀ (i p d : Nat) (num : Int64), p < 2 ^ n → d < n → zv_V x (gz K (zqB 4 bs ver n cap 88) 9 cX6_numberOf yX6_numberOf.cls) 113 [(0, .ref r), (1, .long row), (3, .long (nsm bl u.2.2 num p d)), (5, .int (nI p)), (6, .int (nI i)), (7, .int (nI d)), (8, .int (nI d))] [] (wR K r o b a u.1 u.2.1 bl ab n ver (rBeg bl n) u.2.2 (capB bs ver n cap) (nI (rIdl bl n)) ver ver) (capB bs ver n cap - cap) (4 * (capB bs ver n cap - cap)) → ∀ m l, l + m = d → zv_V x (gz K (zqB 4 bs ver n cap 88) 9 cX6_numberOf yX6_numberOf.cls) 89 [(0, .ref r), (1, .long row), (3, .long (nsm bl u.2.2 num p l)), (5, .int (nI p)), (6, .int (nI i)), (7, .int (nI d)), (8, .int (nI l))] [] (wR K r o b a u.1 u.2.1 bl ab n ver (rBeg bl n) u.2.2 (capB bs ver n cap) (nI (rIdl bl n)) ver ver) (capB bs ver n cap - cap) (4 * (capB bs ver n cap - cap)) := by
    intro i p d num hpp hd hk m
    induction m with
    | zero =>
      intro l hl
      have e1 : l = d := by omega
      subst e1
      refine zv_go C okX6_numberOf [113] 20 ?_
      refine ⟨fun _ => ?_, fun h => absurd (nI_le (Nat.le_refl _) (by omega)) h⟩
      exact hk
    | succ m ih =>
      intro l hl
      refine zv_go C okX6_numberOf [] 20 ?_
      refine ⟨fun h => absurd h (nI_ge (by omega) (by omega)), fun _ => ?_⟩
      refine zv_callV C (c_rowsOnFrom K r o b a u.1 u.2.1 bl ab n ver (rBeg bl n) u.2.2 (capB bs ver n cap) (nI (rIdl bl n)) ver ver (p := p) (v := l) hpp (by omega) hn hb hcb.1 hcb.2.1) (zw_V inX6_rowsOnFrom kX6_54 ⟨by show 2 + 1 ≤ 4; omega, by show 8 + (3 + 11) + 43 ≤ 88; omega⟩) [0, 1, 2, 3, 4, 5] 0 rfl rfl rfl rfl (fun _ => Nat.le_refl _) (rest := [.long (nsm bl u.2.2 num p l)]) rfl rfl (Nat.le_of_ble_eq_true rfl) dzX6_numberOf_102 (Nat.le_refl _) (Nat.le_refl _) rfl (fun _ _ => ?_)
      refine zv_to C rfl rfl (ws' := wR K r o b a u.1 u.2.1 bl ab n ver (rBeg bl n) u.2.2 (capB bs ver n cap) (nI (rIdl bl n)) ver ver) rfl ?_
      refine zv_go C okX6_numberOf [89] 20 ?_
      exact zv_to C (lv' := [(0, .ref r), (1, .long row), (3, .long (nsm bl u.2.2 num p (l + 1))), (5, .int (nI p)), (6, .int (nI i)), (7, .int (nI d)), (8, .int (nI (l + 1)))]) (by rw [← nI_1] <;> rfl) rfl rfl (ih (l + 1) (by omega))
  have loop : ∀ m (num : Int64) (p : Nat) (lv2 : zv_L), m ≤ n → p < 2 ^ n → rhi row n = 0 → nmF bl n u.2.2 row m num p = nmF bl n u.2.2 row n 0 0 → (lv2 = [] ∨ ∃ z w, lv2 = [(7, .int z), (8, .int w)]) → zv_V x (gz K (zqB 4 bs ver n cap 88) 9 cX6_numberOf yX6_numberOf.cls) 32 ([(0, .ref r), (1, .long row), (3, .long num), (5, .int (nI p)), (6, .int (nI (n - m)))] ++ lv2) [] (wR K r o b a u.1 u.2.1 bl ab n ver (rBeg bl n) u.2.2 (capB bs ver n cap) (nI (rIdl bl n)) ver ver) (capB bs ver n cap - cap) (4 * (capB bs ver n cap - cap)) := by
    intro m
    induction m with
    | zero =>
      intro num p lv2 _ hpp hr0 hf hl2
      refine zv_drop C [0, 1, 2, 3, 4] (lv' := [(0, .ref r), (1, .long row), (3, .long num), (5, .int (nI p)), (6, .int (nI (n - 0)))]) (by rcases hl2 with rfl | ⟨z, w, rfl⟩ <;> rfl) ?_
      refine zv_go C okX6_numberOf [] 20 ?_
      refine ⟨rfl, rfl, fun _ => ?_, fun h => absurd (nI_le (by omega) (by omega)) h⟩
      exact zr R u [0, 1, 2, 3, 4, 5] (some (.long _)) _ (by unfold nmR; rw [if_pos hr0, ← hf] <;> rfl) rfl hu rfl rfl (Nat.le_refl _) (Nat.le_refl _) dzX6_numberOf_129
    | succ m ih =>
      intro num p lv2 hm hpp hr0 hf hl2
      have enx : nI (n - (m + 1)) + 1 = nI (n - m) := by rw [nI_1]; congr 1; omega
      obtain ⟨d1, d2⟩ := dgt_ok row (n - (m + 1))
      refine zv_drop C [0, 1, 2, 3, 4] (lv' := [(0, .ref r), (1, .long row), (3, .long num), (5, .int (nI p)), (6, .int (nI (n - (m + 1))))]) (by rcases hl2 with rfl | ⟨z, w, rfl⟩ <;> rfl) ?_
      refine zv_go C okX6_numberOf [] 20 ?_
      refine ⟨rfl, rfl, fun h => absurd h (nI_ge (by omega) (by omega)), fun _ => ⟨rfl, ?_⟩⟩
      rw [nmF] at hf
      refine zv_to C (lv' := [(0, .ref r), (1, .long row), (3, .long num), (5, .int (nI p)), (6, .int (nI (n - (m + 1)))), (7, .int (nI (dgt row (n - (m + 1)))))]) (by rw [← d1]; unfold dgI; rw [← pk_mul] <;> rfl) (st' := [.int (nI (dgt row (n - (m + 1)))), .ref o]) (by rw [← d1]; unfold dgI; rw [← pk_mul] <;> rfl) rfl ?_
      generalize hdd : dgt row (n - (m + 1)) = d at d2 hf ⊢
      refine zv_callV C (c_has K o b a bl ab n ver (nI d)) (zw_V inX4_has kX6_62 ⟨by show 0 + 1 ≤ 4; omega, by show 8 + (2 + 11) + 0 ≤ 88; omega⟩) [1, 2, 3] 1 rfl rfl rfl rfl (fun _ => Nat.le_refl _) rfl rfl (by decide) dzX6_numberOf_62 (Nat.le_refl _) (Nat.le_refl _) rfl (fun _ _ => ?_)
      refine zv_to C rfl rfl (ws' := wR K r o b a u.1 u.2.1 bl ab n ver (rBeg bl n) u.2.2 (capB bs ver n cap) (nI (rIdl bl n)) ver ver) rfl ?_
      refine zv_go C okX6_numberOf [] 20 ?_
      refine ⟨fun h => ?_, fun h => ⟨rfl, ?_⟩⟩
      · rw [bI_0, hasb_nI (by omega) (by omega), decide_eq_false_iff_not] at h
        rw [if_neg (fun q => h q.1)] at hf
        exact zr R u [0, 1, 2, 3, 4, 5] (some (.long (-1))) _ (by unfold nmR; rw [if_pos hr0, ← hf]) rfl hu rfl rfl (Nat.le_refl _) (Nat.le_refl _) dzX6_numberOf_85
      · rw [bI_1, hasb_nI (by omega) (by omega), decide_eq_true_eq] at h
        refine zv_callV C (c_canFollow K o b a bl ab n ver (s := p) (v := d) (by omega) (hb d)) (zw_V inX4_canFollow kX6_66 ⟨by show 1 + 1 ≤ 4; omega, by show 8 + (3 + 11) + 21 ≤ 88; omega⟩) [1, 2, 3] 1 rfl rfl rfl rfl (fun _ => Nat.le_refl _) rfl rfl (by decide) dzX6_numberOf_76 (Nat.le_refl _) (Nat.le_refl _) rfl (fun _ _ => ?_)
        refine zv_to C rfl rfl (ws' := wR K r o b a u.1 u.2.1 bl ab n ver (rBeg bl n) u.2.2 (capB bs ver n cap) (nI (rIdl bl n)) ver ver) rfl ?_
        refine zv_go C okX6_numberOf [89] 20 ?_
        refine ⟨fun h2 => ?_, fun h2 => ?_⟩
        · rw [bI_1, decide_eq_true_eq] at h2
          rw [if_pos ⟨h, h2⟩] at hf
          refine inner (n - (m + 1)) p d num hpp h ?_ d 0 (by omega)
          refine zv_go C okX6_numberOf [32] 20 ?_
          refine zv_to C (lv' := [(0, .ref r), (1, .long row), (3, .long (nsm bl u.2.2 num p d)), (5, .int (nI (p ||| 2 ^ d))), (6, .int (nI (n - m))), (7, .int (nI d)), (8, .int (nI d))]) ?_ rfl rfl (ih _ _ [(7, .int (nI d)), (8, .int (nI d))] (by omega) (nb_lt_or hpp (nb_lt_pow h)) hr0 hf (Or.inr ⟨_, _, rfl⟩))
          rw [← enx, ← nb_or, ← nb_1s d (by omega)]
          rfl
        · rw [bI_0, decide_eq_false_iff_not] at h2
          rw [if_neg (fun q => h2 q.2)] at hf
          exact zr R u [0, 1, 2, 3, 4, 5] (some (.long (-1))) _ (by unfold nmR; rw [if_pos hr0, ← hf]) rfl hu rfl rfl (Nat.le_refl _) (Nat.le_refl _) dzX6_numberOf_85
  refine zv_go C okX6_numberOf [32] 30 ?_
  have erh : (row.toUInt64 >>> (((4 : Int32) * nI n).toInt64.toUInt64 &&& Int64.toUInt64 63)).toInt64 = rhi row n := by
    unfold rhi
    rw [← pk_mul]
    rfl
  refine ⟨rfl, rfl, fun h => ?_, fun h => ?_⟩
  · have h : lg_cmp (row.toUInt64 >>> (((4 : Int32) * nI n).toInt64.toUInt64 &&& Int64.toUInt64 63)).toInt64 0 = 0 := h
    rw [lg_c0, erh] at h
    exact zv_to C (lv' := [(0, .ref r), (1, .long row), (3, .long 0), (5, .int (nI 0)), (6, .int (nI (n - n)))]) (by rw [Nat.sub_self] <;> rfl) rfl rfl (loop n 0 0 [] (Nat.le_refl _) hpos h rfl (Or.inl rfl))
  · have h : ¬ lg_cmp (row.toUInt64 >>> (((4 : Int32) * nI n).toInt64.toUInt64 &&& Int64.toUInt64 63)).toInt64 0 = 0 := h
    rw [lg_c0, erh] at h
    exact zr R u [0, 1, 2, 3, 4, 5] (some (.long (-1))) _ (by unfold nmR; rw [if_neg h]) rfl hu rfl rfl (Nat.le_refl _) (Nat.le_refl _) dzX6_numberOf_23
