/-! THE MODEL: put, free, isBelow -/
theorem zl {P : Nat → Prop} (n : Nat) (h0 : P n) (hs : ∀ k, k < n → P (k + 1) → P k) : ∀ k, k ≤ n → P k := by
  intro k hk
  obtain ⟨d, rfl⟩ : ∃ d, n = k + d := ⟨n - k, by omega⟩
  induction d generalizing k with
  | zero => exact h0
  | succ d ih => exact hs k (by omega) (ih (k + 1) (by rw [Nat.add_right_comm]; exact h0) (fun j hj => hs j (by omega)) (by omega))
section MD
variable (K : zK) (A : Nat → Nat) (n : Nat) (cc : Int32) (Lf : Nat → Bool)
set_option maxHeartbeats 4000000 in
set_option maxRecDepth 100000 in
theorem m_put_no (a b : Int32) (h : hasb n a = false ∨ hasb n b = false ∨ a = b ∨ ∃ i j, i < n ∧ j < n ∧ a = nI i ∧ b = nI j ∧ Lf (16 * j + i) = true) (hn : n ≤ 14) : zD K yX9_put cX9_put 4 (some .int) (zq 2 0 0 80) [.ref (A 0), .int a, .int b] [mO A n cc, mZ K (A 1) Lf] (some (.int (-1))) [mO A n cc, mZ K (A 1) Lf] := by
  refine zo (by decide) (Nat.le_of_ble_eq_true rfl) fun x C R _ => ?_
  refine zv_go C okX9_put [] 40 ?_
  refine zv_callV C (m_has K A n cc a) (zw_V inX9_has kX9_42 ⟨by decide, by decide⟩) [0] 0 rfl rfl rfl rfl (fun _ => Nat.le_refl _) rfl rfl (by decide) dzX9_put_2 (by decide) (by decide) rfl (fun _ _ => ?_)
  refine zv_to C rfl rfl (ws' := [mO A n cc, mZ K (A 1) Lf]) rfl ?_
  refine zv_go C okX9_put [] 40 ?_
  refine ⟨fun h1 => ?_, fun h1 => ?_⟩
  · refine zv_go C okX9_put [] 40 ?_
    exact zr R () [0, 1] (some (.int (-1))) _ rfl rfl trivial rfl rfl (Nat.zero_le _) (Nat.zero_le _) dzX9_put_31
  rw [bI_1] at h1
  refine zv_callV C (m_has K A n cc b) (zw_V inX9_has kX9_42 ⟨by decide, by decide⟩) [0] 0 rfl rfl rfl rfl (fun _ => Nat.le_refl _) rfl rfl (by decide) dzX9_put_10 (by decide) (by decide) rfl (fun _ _ => ?_)
  refine zv_to C rfl rfl (ws' := [mO A n cc, mZ K (A 1) Lf]) rfl ?_
  refine zv_go C okX9_put [] 40 ?_
  refine ⟨fun h2 => ?_, fun h2 => ⟨fun h3 => ?_, fun h3 => ?_⟩⟩
  · refine zv_go C okX9_put [] 40 ?_
    exact zr R () [0, 1] (some (.int (-1))) _ rfl rfl trivial rfl rfl (Nat.zero_le _) (Nat.zero_le _) dzX9_put_31
  · refine zv_go C okX9_put [] 40 ?_
    exact zr R () [0, 1] (some (.int (-1))) _ rfl rfl trivial rfl rfl (Nat.zero_le _) (Nat.zero_le _) dzX9_put_31
  rw [bI_1] at h2
  rcases h with h | h | h | ⟨i, j, hi, hj, rfl, rfl, h⟩
  · rw [h] at h1; cases h1
  · rw [h] at h2; cases h2
  · exact absurd h h3
  · refine zv_callV C (m_is K A n cc Lf (a := j) (b := i) (by omega)) (zw_V inX9_is kX9_46 ⟨by decide, by decide⟩) [0, 1] 0 rfl rfl rfl rfl (fun _ => Nat.le_refl _) rfl rfl (by decide) dzX9_put_24 (by decide) (by decide) rfl (fun _ _ => ?_)
    refine zv_to C rfl rfl (ws' := [mO A n cc, mZ K (A 1) Lf]) rfl ?_
    refine zv_go C okX9_put [] 40 ?_
    refine ⟨fun h4 => ?_, fun h4 => ?_⟩
    · rw [bI_0, h] at h4; cases h4
    · exact zr R () [0, 1] (some (.int (-1))) _ rfl rfl trivial rfl rfl (Nat.zero_le _) (Nat.zero_le _) dzX9_put_31
set_option maxHeartbeats 4000000 in
set_option maxRecDepth 100000 in
theorem m_put {i j : Nat} (hi : i < n) (hj : j < n) (hn : n ≤ 14) (hij : i ≠ j) (hno : Lf (16 * j + i) = false) : zD K yX9_put cX9_put 4 (some .int) (zq 2 0 0 80) [.ref (A 0), .int (nI i), .int (nI j)] [mO A n cc, mZ K (A 1) Lf] (some (.int (nI (mPs (clW n 257 (updB Lf (16 * i + j) true)) n n) - nI (mPs Lf n n)))) [mO A n cc, mZ K (A 1) (clW n 257 (updB Lf (16 * i + j) true))] := by
  refine zo (by decide) (Nat.le_of_ble_eq_true rfl) fun x C R _ => ?_
  refine zv_go C okX9_put [] 40 ?_
  refine zv_callV C (m_has K A n cc (nI i)) (zw_V inX9_has kX9_42 ⟨by decide, by decide⟩) [0] 0 rfl rfl rfl rfl (fun _ => Nat.le_refl _) rfl rfl (by decide) dzX9_put_2 (by decide) (by decide) rfl (fun _ _ => ?_)
  refine zv_to C rfl rfl (ws' := [mO A n cc, mZ K (A 1) Lf]) rfl ?_
  refine zv_go C okX9_put [] 40 ?_
  refine ⟨fun h1 => ?_, fun h1 => ?_⟩
  · rw [bI_0, hasb_nI (by omega) (by omega), decide_eq_false_iff_not] at h1; exact absurd hi h1
  refine zv_callV C (m_has K A n cc (nI j)) (zw_V inX9_has kX9_42 ⟨by decide, by decide⟩) [0] 0 rfl rfl rfl rfl (fun _ => Nat.le_refl _) rfl rfl (by decide) dzX9_put_10 (by decide) (by decide) rfl (fun _ _ => ?_)
  refine zv_to C rfl rfl (ws' := [mO A n cc, mZ K (A 1) Lf]) rfl ?_
  refine zv_go C okX9_put [] 40 ?_
  refine ⟨fun h1 => ?_, fun h1 => ⟨fun h3 => ?_, fun h3 => ?_⟩⟩
  · rw [bI_0, hasb_nI (by omega) (by omega), decide_eq_false_iff_not] at h1; exact absurd hj h1
  · exact absurd ((nb_inj (by omega) (by omega)).mp h3) hij
  refine zv_callV C (m_is K A n cc Lf (a := j) (b := i) (by omega)) (zw_V inX9_is kX9_46 ⟨by decide, by decide⟩) [0, 1] 0 rfl rfl rfl rfl (fun _ => Nat.le_refl _) rfl rfl (by decide) dzX9_put_24 (by decide) (by decide) rfl (fun _ _ => ?_)
  refine zv_to C rfl rfl (ws' := [mO A n cc, mZ K (A 1) Lf]) rfl ?_
  refine zv_go C okX9_put [] 40 ?_
  refine ⟨fun h4 => ?_, fun h4 => ?_⟩
  · refine zv_callV C (m_pairs K A n cc Lf hn) (zw_V inX9_pairs kX9_50 ⟨by decide, by decide⟩) [0, 1] 0 rfl rfl rfl rfl (fun _ => Nat.le_refl _) rfl rfl (by decide) dzX9_put_33 (by decide) (by decide) rfl (fun _ _ => ?_)
    refine zv_to C rfl rfl (ws' := [mO A n cc, mZ K (A 1) Lf]) rfl ?_
    refine zv_go C okX9_put [] 40 ?_
    refine ⟨rfl, ⟨rfl, rfl⟩, ?_, rfl, ?_⟩
    · show vp_in ((16 : Int32) * nI i + nI j) 256
      rw [nb_16]; exact vp_in_nI (by omega) (by decide)
    have e : ((16 : Int32) * nI i + nI j).toNatClampNeg = 16 * i + j := by rw [nb_16]; exact nI_clamp (by omega)
    refine zv_to C rfl rfl (ws' := [mO A n cc, mZ K (A 1) (updB Lf (16 * i + j) true)]) ?_ ?_
    · show [_, (A 1, Sum.inl (cZ K, 256, Sum.inl (upd (fun k => bI (Lf k)) ((16 : Int32) * nI i + nI j).toNatClampNeg (vp_nar .boolean 1))))] = _
      rw [e, bI_n1, updB_bI]
    refine zv_callV C (m_close K A n cc (r := A 1) (f0 := updB Lf (16 * i + j) true) hn) (zw_V inX9_close kX9_54 ⟨by decide, by decide⟩) [0, 1] 0 rfl rfl rfl rfl (fun _ => Nat.le_refl _) rfl rfl (by decide) dzX9_put_54 (by decide) (by decide) rfl (fun _ _ => ?_)
    refine zv_to C rfl rfl (ws' := [mO A n cc, mZ K (A 1) (clW n 257 (updB Lf (16 * i + j) true))]) rfl ?_
    refine zv_go C okX9_put [] 40 ?_
    refine zv_callV C (m_pairs K A n cc (clW n 257 (updB Lf (16 * i + j) true)) hn) (zw_V inX9_pairs kX9_50 ⟨by decide, by decide⟩) [0, 1] 0 rfl rfl rfl rfl (fun _ => Nat.le_refl _) rfl rfl (by decide) dzX9_put_58 (by decide) (by decide) rfl (fun _ _ => ?_)
    refine zv_to C rfl rfl (ws' := [mO A n cc, mZ K (A 1) (clW n 257 (updB Lf (16 * i + j) true))]) rfl ?_
    refine zv_go C okX9_put [] 40 ?_
    exact zr R () [0, 1] (some (.int _)) _ rfl rfl trivial rfl rfl (Nat.zero_le _) (Nat.zero_le _) dzX9_put_63
  · rw [bI_1, hno] at h4; cases h4
set_option maxHeartbeats 4000000 in
set_option maxRecDepth 100000 in
theorem m_free_no (a : Int32) (h : hasb n a = false) : zD K yX9_free cX9_free 4 (some .int) (zq 2 0 0 80) [.ref (A 0), .int a] [mO A n cc, mZ K (A 1) Lf] (some (.int (-1))) [mO A n cc, mZ K (A 1) Lf] := by
  refine zo (by decide) (Nat.le_of_ble_eq_true rfl) fun x C R _ => ?_
  refine zv_go C okX9_free [] 40 ?_
  refine zv_callV C (m_has K A n cc a) (zw_V inX9_has kX9_42 ⟨by decide, by decide⟩) [0] 0 rfl rfl rfl rfl (fun _ => Nat.le_refl _) rfl rfl (by decide) dzX9_free_2 (by decide) (by decide) rfl (fun _ _ => ?_)
  refine zv_to C rfl rfl (ws' := [mO A n cc, mZ K (A 1) Lf]) rfl ?_
  refine zv_go C okX9_free [] 40 ?_
  refine ⟨fun h1 => ?_, fun h1 => ?_⟩
  · rw [bI_1, h] at h1; cases h1
  · exact zr R () [0, 1] (some (.int (-1))) _ rfl rfl trivial rfl rfl (Nat.zero_le _) (Nat.zero_le _) dzX9_free_9
/-- the table when the rows and columns of v below k are taken out -/
def frB (v : Nat) (f : Nat → Bool) : Nat → Nat → Bool
  | 0 => f
  | k + 1 => updB (updB (frB v f k) (16 * k + v) false) (16 * v + k) false
set_option maxHeartbeats 4000000 in
set_option maxRecDepth 100000 in
theorem m_free {v : Nat} (hv : v < n) (hn : n ≤ 14) : zD K yX9_free cX9_free 4 (some .int) (zq 2 0 0 80) [.ref (A 0), .int (nI v)] [mO A n cc, mZ K (A 1) Lf] (some (.int (nI (mPs Lf n n) - nI (mPs (frB v Lf n) n n)))) [mO A n cc, mZ K (A 1) (frB v Lf n)] := by
  refine zo (by decide) (Nat.le_of_ble_eq_true rfl) fun x C R _ => ?_
  have loop : ∀ k, k ≤ n → zv_V x (gz K (zq 2 0 0 80) 4 cX9_free yX9_free.cls) 17 [(0, .ref (A 0)), (1, .int (nI v)), (2, .int (nI (mPs Lf n n))), (3, .int (nI k))] [] [mO A n cc, mZ K (A 1) (frB v Lf k)] 0 0 := by
    refine zl n ?_ fun k hk ih => ?_
    · refine zv_go C okX9_free [] 40 ?_
      refine ⟨rfl, fun _ => ?_, fun h => absurd (nI_le (Nat.le_refl _) (by omega)) h⟩
      refine zv_callV C (m_pairs K A n cc (frB v Lf n) hn) (zw_V inX9_pairs kX9_50 ⟨by decide, by decide⟩) [0, 1] 0 rfl rfl rfl rfl (fun _ => Nat.le_refl _) (rest := [.int (nI (mPs Lf n n))]) rfl rfl (Nat.le_of_ble_eq_true rfl) dzX9_free_57 (by decide) (by decide) rfl (fun _ _ => ?_)
      refine zv_to C rfl rfl (ws' := [mO A n cc, mZ K (A 1) (frB v Lf n)]) rfl ?_
      refine zv_go C okX9_free [] 40 ?_
      exact zr R () [0, 1] (some (.int _)) _ rfl rfl trivial rfl rfl (Nat.zero_le _) (Nat.zero_le _) dzX9_free_61
    · have e1 : ((16 : Int32) * nI k + nI v).toNatClampNeg = 16 * k + v := by rw [nb_16]; exact nI_clamp (by omega)
      have e2 : ((16 : Int32) * nI v + nI k).toNatClampNeg = 16 * v + k := by rw [nb_16]; exact nI_clamp (by omega)
      have v1 : vp_in ((16 : Int32) * nI k + nI v) 256 := by rw [nb_16]; exact vp_in_nI (by omega) (by decide)
      have v2 : vp_in ((16 : Int32) * nI v + nI k) 256 := by rw [nb_16]; exact vp_in_nI (by omega) (by decide)
      refine zv_go C okX9_free [17] 40 ?_
      refine ⟨rfl, fun h => absurd h (nI_ge (by omega) (by omega)), fun _ => ⟨rfl, ⟨rfl, rfl⟩, v1, rfl, ⟨rfl, rfl⟩, v2, ?_⟩⟩
      refine zv_to C (lv' := [(0, .ref (A 0)), (1, .int (nI v)), (2, .int (nI (mPs Lf n n))), (3, .int (nI (k + 1)))]) (by rw [← nI_1] <;> rfl) rfl (ws' := [mO A n cc, mZ K (A 1) (frB v Lf (k + 1))]) ?_ ih
      show [_, (A 1, Sum.inl (cZ K, 256, Sum.inl (upd (upd (fun j => bI (frB v Lf k j)) ((16 : Int32) * nI k + nI v).toNatClampNeg (vp_nar .boolean 0)) ((16 : Int32) * nI v + nI k).toNatClampNeg (vp_nar .boolean 0))))] = _
      rw [e1, e2, bI_n0, updB_bI, updB_bI]
      rfl
  refine zv_go C okX9_free [] 40 ?_
  refine zv_callV C (m_has K A n cc (nI v)) (zw_V inX9_has kX9_42 ⟨by decide, by decide⟩) [0] 0 rfl rfl rfl rfl (fun _ => Nat.le_refl _) rfl rfl (by decide) dzX9_free_2 (by decide) (by decide) rfl (fun _ _ => ?_)
  refine zv_to C rfl rfl (ws' := [mO A n cc, mZ K (A 1) Lf]) rfl ?_
  refine zv_go C okX9_free [] 40 ?_
  refine ⟨fun h1 => ?_, fun h1 => ?_⟩
  · refine zv_callV C (m_pairs K A n cc Lf hn) (zw_V inX9_pairs kX9_50 ⟨by decide, by decide⟩) [0, 1] 0 rfl rfl rfl rfl (fun _ => Nat.le_refl _) rfl rfl (by decide) dzX9_free_11 (by decide) (by decide) rfl (fun _ _ => ?_)
    refine zv_to C rfl rfl (ws' := [mO A n cc, mZ K (A 1) Lf]) rfl ?_
    refine zv_go C okX9_free [17] 12 ?_
    exact loop 0 (Nat.zero_le _)
  · rw [bI_0, hasb_nI (by omega) (by omega), decide_eq_false_iff_not] at h1; exact absurd hv h1
set_option maxHeartbeats 4000000 in
set_option maxRecDepth 100000 in
theorem m_isBelow_no (a b : Int32) (h : hasb n a = false ∨ hasb n b = false) : zD K yX9_isBelow cX9_isBelow 3 (some .boolean) (zq 1 0 0 40) [.ref (A 0), .int a, .int b] [mO A n cc, mZ K (A 1) Lf] (some (.int 0)) [mO A n cc, mZ K (A 1) Lf] := by
  refine zo (by decide) (Nat.le_of_ble_eq_true rfl) fun x C R _ => ?_
  refine zv_go C okX9_isBelow [] 40 ?_
  refine zv_callV C (m_has K A n cc a) (zw_V inX9_has kX9_42 ⟨by decide, by decide⟩) [0] 0 rfl rfl rfl rfl (fun _ => Nat.le_refl _) rfl rfl (by decide) dzX9_isBelow_2 (by decide) (by decide) rfl (fun _ _ => ?_)
  refine zv_to C rfl rfl (ws' := [mO A n cc, mZ K (A 1) Lf]) rfl ?_
  refine zv_go C okX9_isBelow [] 40 ?_
  refine ⟨fun h1 => ?_, fun h1 => ?_⟩
  · refine zv_go C okX9_isBelow [] 40 ?_
    exact zr R () [0, 1] (some (.int 0)) _ rfl rfl trivial rfl rfl (Nat.zero_le _) (Nat.zero_le _) ⟨rfl, dzX9_isBelow_30⟩
  refine zv_callV C (m_has K A n cc b) (zw_V inX9_has kX9_42 ⟨by decide, by decide⟩) [0] 0 rfl rfl rfl rfl (fun _ => Nat.le_refl _) rfl rfl (by decide) dzX9_isBelow_10 (by decide) (by decide) rfl (fun _ _ => ?_)
  refine zv_to C rfl rfl (ws' := [mO A n cc, mZ K (A 1) Lf]) rfl ?_
  refine zv_go C okX9_isBelow [] 40 ?_
  refine ⟨fun h2 => ?_, fun h2 => ?_⟩
  · refine zv_go C okX9_isBelow [] 40 ?_
    exact zr R () [0, 1] (some (.int 0)) _ rfl rfl trivial rfl rfl (Nat.zero_le _) (Nat.zero_le _) ⟨rfl, dzX9_isBelow_30⟩
  rw [bI_1] at h1 h2
  rcases h with h | h
  · rw [h] at h1; cases h1
  · rw [h] at h2; cases h2
set_option maxHeartbeats 4000000 in
set_option maxRecDepth 100000 in
theorem m_isBelow {i j : Nat} (hi : i < n) (hj : j < n) (hn : n ≤ 14) : zD K yX9_isBelow cX9_isBelow 3 (some .boolean) (zq 1 0 0 40) [.ref (A 0), .int (nI i), .int (nI j)] [mO A n cc, mZ K (A 1) Lf] (some (.int (bI (Lf (16 * i + j))))) [mO A n cc, mZ K (A 1) Lf] := by
  refine zo (by decide) (Nat.le_of_ble_eq_true rfl) fun x C R _ => ?_
  refine zv_go C okX9_isBelow [] 40 ?_
  refine zv_callV C (m_has K A n cc (nI i)) (zw_V inX9_has kX9_42 ⟨by decide, by decide⟩) [0] 0 rfl rfl rfl rfl (fun _ => Nat.le_refl _) rfl rfl (by decide) dzX9_isBelow_2 (by decide) (by decide) rfl (fun _ _ => ?_)
  refine zv_to C rfl rfl (ws' := [mO A n cc, mZ K (A 1) Lf]) rfl ?_
  refine zv_go C okX9_isBelow [] 40 ?_
  refine ⟨fun h1 => ?_, fun h1 => ?_⟩
  · rw [bI_0, hasb_nI (by omega) (by omega), decide_eq_false_iff_not] at h1; exact absurd hi h1
  refine zv_callV C (m_has K A n cc (nI j)) (zw_V inX9_has kX9_42 ⟨by decide, by decide⟩) [0] 0 rfl rfl rfl rfl (fun _ => Nat.le_refl _) rfl rfl (by decide) dzX9_isBelow_10 (by decide) (by decide) rfl (fun _ _ => ?_)
  refine zv_to C rfl rfl (ws' := [mO A n cc, mZ K (A 1) Lf]) rfl ?_
  refine zv_go C okX9_isBelow [] 40 ?_
  refine ⟨fun h1 => ?_, fun h1 => ?_⟩
  · rw [bI_0, hasb_nI (by omega) (by omega), decide_eq_false_iff_not] at h1; exact absurd hj h1
  refine zv_callV C (m_is K A n cc Lf (a := i) (b := j) (by omega)) (zw_V inX9_is kX9_46 ⟨by decide, by decide⟩) [0, 1] 0 rfl rfl rfl rfl (fun _ => Nat.le_refl _) rfl rfl (by decide) dzX9_isBelow_19 (by decide) (by decide) rfl (fun _ _ => ?_)
  refine zv_to C rfl rfl (ws' := [mO A n cc, mZ K (A 1) Lf]) rfl ?_
  refine zv_go C okX9_isBelow [] 40 ?_
  refine ⟨fun h1 => ?_, fun h1 => ?_⟩
  · rw [bI_0] at h1
    exact zr R () [0, 1] (some (.int 0)) _ (by rw [h1] <;> rfl) rfl trivial rfl rfl (Nat.zero_le _) (Nat.zero_le _) ⟨rfl, dzX9_isBelow_30⟩
  · rw [bI_1] at h1
    exact zr R () [0, 1] (some (.int 1)) _ (by rw [h1] <;> rfl) rfl trivial rfl rfl (Nat.zero_le _) (Nat.zero_le _) ⟨rfl, dzX9_isBelow_30⟩
set_option maxHeartbeats 4000000 in
set_option maxRecDepth 100000 in
theorem m_covers_no (a : Int32) (h : hasb n a = false) : zD K yX9_covers cX9_covers 6 (some .int) (zq 1 0 0 22) [.ref (A 0), .int a] [mO A n cc, mZ K (A 1) Lf] (some (.int (-1))) [mO A n cc, mZ K (A 1) Lf] := by
  refine zo (by decide) (Nat.le_of_ble_eq_true rfl) fun x C R _ => ?_
  refine zv_go C okX9_covers [] 40 ?_
  refine zv_callV C (m_has K A n cc a) (zw_V inX9_has kX9_42 ⟨by decide, by decide⟩) [0] 0 rfl rfl rfl rfl (fun _ => Nat.le_refl _) rfl rfl (by decide) dzX9_covers_2 (by decide) (by decide) rfl (fun _ _ => ?_)
  refine zv_to C rfl rfl (ws' := [mO A n cc, mZ K (A 1) Lf]) rfl ?_
  refine zv_go C okX9_covers [] 40 ?_
  refine ⟨fun h1 => ?_, fun h1 => ?_⟩
  · rw [bI_1, h] at h1; cases h1
  · exact zr R () [0, 1] (some (.int (-1))) _ rfl rfl trivial rfl rfl (Nat.zero_le _) (Nat.zero_le _) dzX9_covers_9
end MD
