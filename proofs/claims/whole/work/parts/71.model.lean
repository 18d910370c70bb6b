/-! THE MODEL: its cells, its leaves -/
abbrev mO (A : Nat → Nat) (n : Nat) (cc : Int32) : Nat × va_E := (A 0, .inr (9, [.int (nI n), .ref (A 1), .ref (A 2), .ref (A 3), .ref (A 4), .int cc, .ref (A 5), .ref (A 6), .ref (A 7), .ref (A 8)]))
abbrev mZ (K : zK) (a : Nat) (f : Nat → Bool) : Nat × va_E := (a, .inl (cZ K, 256, .inl (fun k => bI (f k))))
abbrev mJ (K : zK) (a : Nat) (f : Nat → Int64) : Nat × va_E := (a, .inl (cJ K, 16384, .inr (.inl f)))
abbrev mI (K : zK) (a len : Nat) (f : Nat → Int32) : Nat × va_E := (a, .inl (cI K, len, .inl f))
abbrev mB (K : zK) (a : Nat) (f : Nat → Int32) : Nat × va_E := (a, .inl (cB K, 245760, .inl f))
theorem nb_16 (a b : Nat) : (16 : Int32) * nI a + nI b = nI (16 * a + b) := by
  have e : (16 : Int32) = nI 16 := rfl
  rw [e, pk_mul, nI_add]
theorem nb_isin {s v : Nat} (hs : s < 2 ^ 31) (hv : v < 32) : (nI s >>> (nI v &&& 31)) &&& 1 = nI ((s.testBit v).toNat) := by
  have h1 : ((nI v &&& 31).toBitVec.smod 32).toNat = v := (by decide +kernel : ∀ v, v < 32 → ((nI v &&& 31).toBitVec.smod 32).toNat = v) v hv
  rw [pk_shrN hs _ v h1]
  have e : (1 : Int32) = nI 1 := rfl
  rw [e, nb_and]
  congr 1
  rw [Nat.and_one_is_mod]
  have h2 := Nat.testBit_eq_decide_div_mod_eq (x := s) (i := v)
  rw [h2]
  rcases Nat.mod_two_eq_zero_or_one (s / 2 ^ v) with h | h <;> rw [h] <;> rfl
section MA
variable (K : zK) (A : Nat → Nat) (n : Nat) (cc : Int32) (Lf : Nat → Bool)
set_option maxHeartbeats 4000000 in
set_option maxRecDepth 100000 in
theorem m_has (v : Int32) : zD K yX9_has cX9_has 2 (some .boolean) (zq 0 0 0 0) [.ref (A 0), .int v] [mO A n cc] (some (.int (bI (hasb n v)))) [mO A n cc] := by
  refine zo (by decide) (Nat.le_of_ble_eq_true rfl) fun x C R _ => ?_
  refine zv_go C okX9_has [] 20 ?_
  refine ⟨fun h => ?_, fun h => ⟨rfl, fun h2 => ?_, fun h2 => ?_⟩⟩
  · exact zr R () [0] (some (.int 0)) _ (by unfold hasb; rw [decide_eq_false]; rfl; exact fun q => absurd q.1 (Int32.not_le.mpr h)) rfl trivial rfl rfl (Nat.le_refl _) (Nat.le_refl _) ⟨rfl, dzX9_has_17⟩
  · exact zr R () [0] (some (.int 0)) _ (by unfold hasb; rw [decide_eq_false]; rfl; exact fun q => absurd q.2 (Int32.not_lt.mpr h2)) rfl trivial rfl rfl (Nat.le_refl _) (Nat.le_refl _) ⟨rfl, dzX9_has_17⟩
  · exact zr R () [0] (some (.int 1)) _ (by unfold hasb; rw [decide_eq_true]; rfl; exact ⟨Int32.not_lt.mp h, Int32.not_le.mp h2⟩) rfl trivial rfl rfl (Nat.le_refl _) (Nat.le_refl _) ⟨rfl, dzX9_has_17⟩
set_option maxHeartbeats 4000000 in
set_option maxRecDepth 100000 in
theorem m_is {a b : Nat} (h : 16 * a + b < 256) : zD K yX9_is cX9_is 3 (some .boolean) (zq 0 0 0 0) [.ref (A 0), .int (nI a), .int (nI b)] [mO A n cc, mZ K (A 1) Lf] (some (.int (bI (Lf (16 * a + b))))) [mO A n cc, mZ K (A 1) Lf] := by
  refine zo (by decide) (Nat.le_of_ble_eq_true rfl) fun x C R _ => ?_
  refine zv_go C okX9_is [] 20 ?_
  refine ⟨rfl, ⟨rfl, rfl⟩, ?_, ?_⟩
  · show vp_in ((16 : Int32) * nI a + nI b) 256
    rw [nb_16]; exact vp_in_nI h (by decide)
  · have e : ((16 : Int32) * nI a + nI b).toNatClampNeg = 16 * a + b := by rw [nb_16]; exact nI_clamp (by omega)
    exact zr R () [0, 1] (some (.int (bI (Lf ((16 : Int32) * nI a + nI b).toNatClampNeg)))) _ (by rw [e]) rfl trivial rfl rfl (Nat.le_refl _) (Nat.le_refl _) ⟨bI_nar _, dzX9_is_11⟩
set_option maxHeartbeats 4000000 in
set_option maxRecDepth 100000 in
theorem m_isIn {s v : Nat} (hs : s < 2 ^ 31) (hv : v < 32) : zD K yX9_isIn cX9_isIn 2 (some .boolean) (zq 0 0 0 0) [.int (nI s), .int (nI v)] [] (some (.int (bI (s.testBit v)))) [] := by
  refine zo (by decide) (Nat.le_of_ble_eq_true rfl) fun x C R _ => ?_
  refine zv_go C okX9_isIn [] 20 ?_
  refine ⟨fun h => ?_, fun h => ?_⟩
  · rw [nb_isin hs hv] at h
    exact zr R () [] (some (.int 0)) _ (by cases hb : s.testBit v with
      | true => rw [hb] at h; exact absurd rfl h
      | false => rfl) rfl trivial rfl rfl (Nat.le_refl _) (Nat.le_refl _) ⟨rfl, dzX9_isIn_14⟩
  · rw [nb_isin hs hv] at h
    exact zr R () [] (some (.int 1)) _ (by cases hb : s.testBit v with
      | true => rfl
      | false => rw [hb] at h; exact absurd h (by decide)) rfl trivial rfl rfl (Nat.le_refl _) (Nat.le_refl _) ⟨rfl, dzX9_isIn_14⟩
set_option maxHeartbeats 4000000 in
set_option maxRecDepth 100000 in
theorem m_size {s : Nat} (hs : s < 2 ^ 31) : zD K yX9_size cX9_size 3 (some .int) (zq 0 0 0 0) [.int (nI s)] [] (some (.int (nI (npc 31 s)))) [] := by
  refine zo (by decide) (Nat.le_of_ble_eq_true rfl) fun x C R _ => ?_
  have loop : ∀ mm k, k + mm = 31 → zv_V x (gz K (zq 0 0 0 0) 3 cX9_size yX9_size.cls) 4 [(0, .int (nI s)), (1, .int (nI (npc k s))), (2, .int (nI k))] [] [] 0 0 := by
    intro mm
    induction mm with
    | zero =>
      intro k hk
      have e : k = 31 := by omega
      subst e
      refine zv_go C okX9_size [] 20 ?_
      refine ⟨fun _ => ?_, fun h => absurd (by decide) h⟩
      exact zr R () [] (some (.int _)) _ rfl rfl trivial rfl rfl (Nat.le_refl _) (Nat.le_refl _) dzX9_size_25
    | succ mm ih =>
      intro k hk
      refine zv_go C okX9_size [4] 20 ?_
      refine ⟨fun h => absurd h (nI_ge (b := 31) (by omega) (by omega)), fun _ => ?_⟩
      refine zv_to C (lv' := [(0, .int (nI s)), (1, .int (nI (npc (k + 1) s))), (2, .int (nI (k + 1)))]) ?_ rfl rfl (ih (k + 1) (by omega))
      show [(0, Value.int (nI s)), (1, .int (nI (npc k s) + ((nI s >>> (nI k &&& 31)) &&& 1))), (2, .int (nI k + 1))] = _
      rw [nb_isin hs (by omega), nI_add, nI_1]
      rfl
  refine zv_go C okX9_size [4] 20 ?_
  exact loop 31 0 (by omega)
set_option maxHeartbeats 4000000 in
set_option maxRecDepth 100000 in
theorem m_all (hn : n ≤ 14) : zD K yX9_all cX9_all 1 (some .int) (zq 0 0 0 0) [.ref (A 0)] [mO A n cc] (some (.int (nI (2 ^ n - 1)))) [mO A n cc] := by
  refine zo (by decide) (Nat.le_of_ble_eq_true rfl) fun x C R _ => ?_
  refine zv_go C okX9_all [] 20 ?_
  refine ⟨rfl, ?_⟩
  exact zr R () [0] (some (.int _)) _ (by rw [← nb_all n (by omega)]) rfl trivial rfl rfl (Nat.le_refl _) (Nat.le_refl _) dzX9_all_8
set_option maxHeartbeats 4000000 in
set_option maxRecDepth 100000 in
theorem m_begin_no (k : Int32) (h : k < 1 ∨ 14 < k) : zD K yX9_begin cX9_begin 3 (some .int) (zq 0 0 0 0) [.ref (A 0), .int k] [mO A n cc, mZ K (A 1) Lf] (some (.int (-1))) [mO A n cc, mZ K (A 1) Lf] := by
  refine zo (by decide) (Nat.le_of_ble_eq_true rfl) fun x C R _ => ?_
  refine zv_go C okX9_begin [] 6 ?_
  refine ⟨fun h1 => ?_, fun h1 => ⟨fun h2 => ?_, fun h2 => ?_⟩⟩
  · exact zr R () [0, 1] (some (.int (-1))) _ rfl rfl trivial rfl rfl (Nat.zero_le _) (Nat.zero_le _) dzX9_begin_12
  · exact absurd h (fun z => z.elim h1 (fun w => absurd h2 (Int32.not_le.mpr w)))
  · refine zv_go C okX9_begin [] 6 ?_
    exact zr R () [0, 1] (some (.int (-1))) _ rfl rfl trivial rfl rfl (Nat.zero_le _) (Nat.zero_le _) dzX9_begin_12
theorem bI_n0 : vp_nar .boolean 0 = bI false := by decide
theorem bI_n1 : vp_nar .boolean 1 = bI true := by decide
theorem bI_nn (b : Bool) : vp_nar .boolean (bI b) = bI b := by cases b <;> decide
set_option maxHeartbeats 4000000 in
set_option maxRecDepth 100000 in
theorem m_begin (t : Nat) (h1 : 1 ≤ t) (h2 : t ≤ 14) : zD K yX9_begin cX9_begin 3 (some .int) (zq 0 0 0 0) [.ref (A 0), .int (nI t)] [mO A n cc, mZ K (A 1) Lf] (some (.int (nI t))) [mO A t cc, mZ K (A 1) (fun _ => false)] := by
  refine zo (by decide) (Nat.le_of_ble_eq_true rfl) fun x C R _ => ?_
  have loop : ∀ mm k (f : Nat → Int32), k + mm = 256 → (∀ j, j < k → f j = 0) → zv_V x (gz K (zq 0 0 0 0) 3 cX9_begin yX9_begin.cls) 20 [(0, .ref (A 0)), (1, .int (nI t)), (2, .int (nI k))] [] [mO A t cc, (A 1, .inl (cZ K, 256, .inl f))] 0 0 := by
    intro mm
    induction mm with
    | zero =>
      intro k f hk hf
      have e : k = 256 := by omega
      subst e
      refine zv_exI C 1 (fun _ => bI false) rfl (fun j hj => by rw [hf j hj]; rfl) ?_
      refine zv_go C okX9_begin [] 20 ?_
      refine ⟨fun _ => ⟨rfl, ?_⟩, fun h => absurd (by decide) h⟩
      exact zr R () [0, 1] (some (.int _)) _ rfl rfl trivial rfl rfl (Nat.le_refl _) (Nat.le_refl _) dzX9_begin_44
    | succ mm ih =>
      intro k f hk hf
      refine zv_go C okX9_begin [20] 20 ?_
      refine ⟨fun h => absurd h (nI_ge (b := 256) (by omega) (by omega)), fun _ => ⟨rfl, ⟨rfl, rfl⟩, vp_in_nI (by omega) (by decide), ?_⟩⟩
      refine zv_to C (lv' := [(0, .ref (A 0)), (1, .int (nI t)), (2, .int (nI (k + 1)))]) (by rw [← nI_1] <;> rfl) rfl rfl (ih (k + 1) _ (by omega) ?_)
      intro j hj
      rw [nI_clamp (by omega)]
      by_cases e : j = k
      · rw [e, pk_us]; exact bI_n0
      · rw [pk_un e]; exact hf j (by omega)
  refine zv_go C okX9_begin [20] 20 ?_
  refine ⟨fun h => absurd h (nI_nlt (b := 1) (by omega) (by omega)), fun _ => ⟨fun _ => ⟨rfl, ?_⟩, fun h => absurd (nI_le (b := 14) h2 (by decide)) h⟩⟩
  exact loop 256 0 _ (by omega) (fun j hj => absurd hj (Nat.not_lt_zero _))
/-- how many pairs, row by row -/
def mPr (Lf : Nat → Bool) (x : Nat) : Nat → Nat
  | 0 => 0
  | k + 1 => mPr Lf x k + (Lf (16 * x + k)).toNat
def mPs (Lf : Nat → Bool) (n : Nat) : Nat → Nat
  | 0 => 0
  | k + 1 => mPs Lf n k + mPr Lf k n
set_option maxHeartbeats 4000000 in
set_option maxRecDepth 100000 in
theorem m_pairs (hn : n ≤ 14) : zD K yX9_pairs cX9_pairs 4 (some .int) (zq 1 0 0 22) [.ref (A 0)] [mO A n cc, mZ K (A 1) Lf] (some (.int (nI (mPs Lf n n)))) [mO A n cc, mZ K (A 1) Lf] := by
  refine zo (by decide) (Nat.le_of_ble_eq_true rfl) fun x C R _ => ?_
  have loop : ∀ mm a (lv2 : zv_L), a + mm = n → (lv2 = [] ∨ ∃ z, lv2 = [(3, .int z)]) → zv_V x (gz K (zq 1 0 0 22) 4 cX9_pairs yX9_pairs.cls) 4 ([(0, .ref (A 0)), (1, .int (nI (mPs Lf n a))), (2, .int (nI a))] ++ lv2) [] [mO A n cc, mZ K (A 1) Lf] 0 0 := by
    intro mm
    induction mm with
    | zero =>
      intro a lv2 ha hl2
      have e : a = n := by omega
      refine zv_drop C [0, 1, 2] (lv' := [(0, .ref (A 0)), (1, .int (nI (mPs Lf n a))), (2, .int (nI a))]) (by rcases hl2 with rfl | ⟨z, rfl⟩ <;> rfl) ?_
      subst e
      refine zv_go C okX9_pairs [] 20 ?_
      refine ⟨rfl, fun _ => ?_, fun h => absurd (nI_le (Nat.le_refl _) (by omega)) h⟩
      exact zr R () [0, 1] (some (.int _)) _ rfl rfl trivial rfl rfl (Nat.le_refl _) (Nat.le_refl _) dzX9_pairs_52
    | succ mm ih =>
      intro a lv2 ha hl2
      refine zv_drop C [0, 1, 2] (lv' := [(0, .ref (A 0)), (1, .int (nI (mPs Lf n a))), (2, .int (nI a))]) (by rcases hl2 with rfl | ⟨z, rfl⟩ <;> rfl) ?_
      have inner : ∀ m2 b, b + m2 = n → zv_V x (gz K (zq 1 0 0 22) 4 cX9_pairs yX9_pairs.cls) 14 [(0, .ref (A 0)), (1, .int (nI (mPs Lf n a + mPr Lf a b))), (2, .int (nI a)), (3, .int (nI b))] [] [mO A n cc, mZ K (A 1) Lf] 0 0 := by
        intro m2
        induction m2 with
        | zero =>
          intro b hb
          have e : b = n := by omega
          subst e
          refine zv_go C okX9_pairs [4] 20 ?_
          refine ⟨rfl, fun _ => ?_, fun h => absurd (nI_le (Nat.le_refl _) (by omega)) h⟩
          exact zv_to C (lv' := [(0, .ref (A 0)), (1, .int (nI (mPs Lf b (a + 1)))), (2, .int (nI (a + 1))), (3, .int (nI b))]) (by rw [← nI_1] <;> rfl) rfl rfl (ih (a + 1) [_] (by omega) (Or.inr ⟨_, rfl⟩))
        | succ m2 ih2 =>
          intro b hb
          refine zv_go C okX9_pairs [] 8 ?_
          refine ⟨rfl, fun h => absurd h (nI_ge (by omega) (by omega)), fun _ => ?_⟩
          refine zv_callV C (m_is K A n cc Lf (a := a) (b := b) (by omega)) (zw_V inX9_is kX9_46 ⟨by decide, by decide⟩) [0, 1] 0 rfl rfl rfl rfl (fun _ => Nat.le_refl _) (rest := [.int (nI (mPs Lf n a + mPr Lf a b))]) rfl rfl (Nat.le_of_ble_eq_true rfl) dzX9_pairs_26 (by decide) (by decide) rfl (fun _ _ => ?_)
          refine zv_to C rfl rfl (ws' := [mO A n cc, mZ K (A 1) Lf]) rfl ?_
          refine zv_go C okX9_pairs [14] 20 ?_
          refine ⟨fun h => ?_, fun h => ?_⟩
          · rw [bI_0] at h
            refine zv_to C (lv' := [(0, .ref (A 0)), (1, .int (nI (mPs Lf n a + mPr Lf a (b + 1)))), (2, .int (nI a)), (3, .int (nI (b + 1)))]) ?_ rfl rfl (ih2 (b + 1) (by omega))
            show [(0, Value.ref (A 0)), (1, .int (nI (mPs Lf n a + mPr Lf a b) + nI 0)), (2, .int (nI a)), (3, .int (nI b + 1))] = _
            rw [nI_add, nI_1, mPr, h]
            rfl
          · rw [bI_1] at h
            refine zv_to C (lv' := [(0, .ref (A 0)), (1, .int (nI (mPs Lf n a + mPr Lf a (b + 1)))), (2, .int (nI a)), (3, .int (nI (b + 1)))]) ?_ rfl rfl (ih2 (b + 1) (by omega))
            show [(0, Value.ref (A 0)), (1, .int (nI (mPs Lf n a + mPr Lf a b) + nI 1)), (2, .int (nI a)), (3, .int (nI b + 1))] = _
            rw [nI_add, nI_1, mPr, h]
            rfl
      refine zv_go C okX9_pairs [14] 20 ?_
      refine ⟨rfl, fun h => absurd h (nI_ge (by omega) (by omega)), fun _ => ?_⟩
      exact inner n 0 (by omega)
  refine zv_go C okX9_pairs [4] 20 ?_
  exact loop n 0 [] (by omega) (Or.inl rfl)
end MA
