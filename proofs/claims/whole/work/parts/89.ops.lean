/-! ONE CALL: desk and model answer alike (the order itself) -/
def iV (v : Value) : Prop := ∃ x, v = .int x
def jV (v : Value) : Prop := ∃ x, v = .long x
theorem hb_ft {b : Bool} (h : ¬ b = false) : b = true := by cases b <;> simp_all
section OPS
variable (K : zK) (A : Nat → Nat) (O : dO) (L : dL) (q : zS) (W : dW) (P : dP) (R : dR) (C : dC) (M : dM) (B : Nat → Nat) (Lf : Nat → Bool) (cc : Int32) (Of : Nat → Bool) (g : Nat → Int64) (f mu gb ln bs : Nat → Int32) {t : Nat}
theorem rmA0 (G : Gd t Lf O L W P R C M) : lce (A, O, L, q, W, P, R, C, M) ≤ 600000 ∧ lsl (A, O, L, q, W, P, R, C, M) ≤ 7302250 := by
  have := G.room
  show R.2.2.1 + C.2.1 + 2 * M.2.2.1 ≤ _ ∧ 300000 + 4 * R.2.2.1 + 2 * C.2.1 + 4 * M.2.2.1 ≤ _
  omega
set_option maxRecDepth 10000 in
theorem op_begin (G : Gd t Lf O L W P R C M) (ht : t < 2 ^ 30) (k : Int32) : zP K yX8_begin cX8_begin 2 yX9_begin cX9_begin 3 (some .int) [.int k] (A, O, L, q, W, P, R, C, M) B Lf (cc, Of, g, f, mu, gb, ln, bs) t iV := by
  have hr := rmA0 A O L q W P R C M Lf G
  by_cases h : k < 1 ∨ 14 < k
  · exact ⟨.int (-1), O.2.2.1, Lf, ⟨_, rfl⟩, zG_D (A, O, L, q, W, P, R, C, M) (d_begin_no K A O L q W P R C M k h) ⟨by decide, by decide⟩ hr rfl ⟨G.up, rfl⟩ rfl rfl, zH_D [20, 21] (cc, Of, g, f, mu, gb, ln, bs) (m_begin_no K B O.2.2.1 cc Lf k h) ⟨rfl, rfl, by decide, by decide⟩ rfl (Nat.le_refl _) (fun _ => rfl) (fun _ => rfl)⟩
  · have hk : hasb 15 k = true := by
      unfold hasb
      apply decide_eq_true
      rw [Int32.le_iff_toInt_le, Int32.lt_iff_toInt_lt]
      rw [not_or, Int32.lt_iff_toInt_lt, Int32.lt_iff_toInt_lt] at h
      have e1 : (1 : Int32).toInt = 1 := rfl
      have e2 : (14 : Int32).toInt = 14 := rfl
      have e3 : (nI 15).toInt = 15 := rfl
      have e4 : (0 : Int32).toInt = 0 := rfl
      omega
    obtain ⟨j, hj, rfl⟩ := hasb_ex (by decide) hk
    have h1 : 1 ≤ j := by
      rcases Nat.eq_zero_or_pos j with e | e
      · subst e; exact absurd (Or.inl (by decide)) h
      · exact e
    exact ⟨.int (nI j), j, fun _ => false, ⟨_, rfl⟩, zG_D (A, (fun _ => 0, fun _ => 0, j, O.2.2.2 + 1), L, q, W, P, R, C, M) (d_begin K A O L q W P R C M j h1 (by omega)) ⟨by decide, by decide⟩ hr rfl ⟨G.new ht (Tied_begin j) h1 (by omega), rfl⟩ rfl rfl, zH_D [20, 21] (cc, Of, g, f, mu, gb, ln, bs) (m_begin K B O.2.2.1 cc Lf j h1 (by omega)) ⟨rfl, rfl, by decide, by decide⟩ rfl (Nat.le_refl _) (fun _ => rfl) (fun _ => rfl)⟩
set_option maxRecDepth 10000 in
theorem op_put (G : Gd t Lf O L W P R C M) (ht : t < 2 ^ 30) (a b : Int32) : zP K yX8_put cX8_put 3 yX9_put cX9_put 4 (some .int) [.int a, .int b] (A, O, L, q, W, P, R, C, M) B Lf (cc, Of, g, f, mu, gb, ln, bs) t iV := by
  have hr := rmA0 A O L q W P R C M Lf G
  have hn := G.2.1.2
  by_cases h : hasb O.2.2.1 a = false ∨ hasb O.2.2.1 b = false ∨ a = b ∨ ∃ i j, i < O.2.2.1 ∧ j < O.2.2.1 ∧ a = nI i ∧ b = nI j ∧ (O.2.1 j).testBit i = true
  · have h' : hasb O.2.2.1 a = false ∨ hasb O.2.2.1 b = false ∨ a = b ∨ ∃ i j, i < O.2.2.1 ∧ j < O.2.2.1 ∧ a = nI i ∧ b = nI j ∧ Lf (16 * j + i) = true := h.imp_right fun h => h.imp_right fun h => h.imp_right fun ⟨i, j, hi, hj, e1, e2, e3⟩ => ⟨i, j, hi, hj, e1, e2, by rw [G.1.2 j i hj hi]; exact e3⟩
    exact ⟨.int (-1), O.2.2.1, Lf, ⟨_, rfl⟩, zG_D (A, O, L, q, W, P, R, C, M) (d_put_no K A O L q W P R C M a b h hn G.ha) ⟨by decide, by decide⟩ hr rfl ⟨G.up, rfl⟩ rfl rfl, zH_D [20, 21] (cc, Of, g, f, mu, gb, ln, bs) (m_put_no K B O.2.2.1 cc Lf a b h' hn) ⟨rfl, rfl, by decide, by decide⟩ rfl (Nat.le_refl _) (fun _ => rfl) (fun _ => rfl)⟩
  · rw [not_or, not_or, not_or] at h
    obtain ⟨h1, h2, h3, h4⟩ := h
    obtain ⟨i, hi, rfl⟩ := hasb_ex (by omega) (hb_ft h1)
    obtain ⟨j, hj, rfl⟩ := hasb_ex (by omega) (hb_ft h2)
    have hij : i ≠ j := fun e => h3 (by rw [e])
    have hno : (O.2.1 j).testBit i = false := by
      cases e : (O.2.1 j).testBit i with
      | false => rfl
      | true => exact absurd ⟨i, j, hi, hj, rfl, rfl, e⟩ h4
    have hno' : Lf (16 * j + i) = false := by rw [G.1.2 j i hj hi]; exact hno
    have hT := put_tied G.1 hn hi hj hij hno
    have hm := m_put K B O.2.2.1 cc Lf hi hj hn hij hno'
    rw [put_ret G.1 hn hi hj hij hno] at hm
    refine ⟨.int (nI (ocame (O.1 i ||| 2 ^ i) (O.2.1 j ||| 2 ^ j) O.2.1 O.2.2.1)), O.2.2.1, clW O.2.2.1 257 (updB Lf (16 * i + j) true), ⟨_, rfl⟩, zG_D (A, (orow (O.2.1 j ||| 2 ^ j) (O.1 i ||| 2 ^ i) O.1 O.2.2.1, orow (O.1 i ||| 2 ^ i) (O.2.1 j ||| 2 ^ j) O.2.1 O.2.2.1, O.2.2.1, if nI (ocame (O.1 i ||| 2 ^ i) (O.2.1 j ||| 2 ^ j) O.2.1 O.2.2.1) = 0 then O.2.2.2 else O.2.2.2 + 1), L, q, W, P, R, C, M) (d_put K A O L q W P R C M hi hj hn hij hno G.hb G.ha) ⟨by decide, by decide⟩ hr rfl ⟨?_, rfl⟩ rfl rfl, zH_D [20, 21] (cc, Of, g, f, mu, gb, ln, bs) hm ⟨rfl, rfl, by decide, by decide⟩ rfl (Nat.le_refl _) (fun _ => rfl) (fun _ => rfl)⟩
    show Gd (t + 1) _ (_, _, _, _) L W P R C M
    by_cases e : nI (ocame (O.1 i ||| 2 ^ i) (O.2.1 j ||| 2 ^ j) O.2.1 O.2.2.1) = 0
    · rw [if_pos e]
      obtain ⟨e1, e2⟩ := put_same G.1.1 hn hi hj ((put_small G.1.1 hn).mp e)
      rw [e1, e2] at hT
      rw [e1, e2]
      exact ⟨hT, G.up.2⟩
    · rw [if_neg e]; exact G.new ht hT G.2.1.1 hn
set_option maxRecDepth 10000 in
theorem op_free (G : Gd t Lf O L W P R C M) (ht : t < 2 ^ 30) (a : Int32) : zP K yX8_free cX8_free 2 yX9_free cX9_free 4 (some .int) [.int a] (A, O, L, q, W, P, R, C, M) B Lf (cc, Of, g, f, mu, gb, ln, bs) t iV := by
  have hr := rmA0 A O L q W P R C M Lf G
  have hn := G.2.1.2
  by_cases h : hasb O.2.2.1 a = false
  · exact ⟨.int (-1), O.2.2.1, Lf, ⟨_, rfl⟩, zG_D (A, O, L, q, W, P, R, C, M) (d_free_no K A O L q W P R C M a h) ⟨by decide, by decide⟩ hr rfl ⟨G.up, rfl⟩ rfl rfl, zH_D [20, 21] (cc, Of, g, f, mu, gb, ln, bs) (m_free_no K B O.2.2.1 cc Lf a h) ⟨rfl, rfl, by decide, by decide⟩ rfl (Nat.le_refl _) (fun _ => rfl) (fun _ => rfl)⟩
  · obtain ⟨v, hv, rfl⟩ := hasb_ex (by omega) (hb_ft h)
    have hT := free_tied G.1 hn hv
    have hm := m_free K B O.2.2.1 cc Lf hv hn
    rw [free_ret G.1 hn hv] at hm
    refine ⟨.int (nI (npc 14 (O.1 v) + npc 14 (O.2.1 v))), O.2.2.1, frB v Lf O.2.2.1, ⟨_, rfl⟩, zG_D (A, (va_up (ocut v O.1 O.2.2.1) v 0, va_up (ocut v O.2.1 O.2.2.1) v 0, O.2.2.1, if nI (npc 14 (O.1 v) + npc 14 (O.2.1 v)) = 0 then O.2.2.2 else O.2.2.2 + 1), L, q, W, P, R, C, M) (d_free K A O L q W P R C M hv (by omega) hn G.hb G.ha) ⟨by decide, by decide⟩ hr rfl ⟨?_, rfl⟩ rfl rfl, zH_D [20, 21] (cc, Of, g, f, mu, gb, ln, bs) hm ⟨rfl, rfl, by decide, by decide⟩ rfl (Nat.le_refl _) (fun _ => rfl) (fun _ => rfl)⟩
    show Gd (t + 1) _ (_, _, _, _) L W P R C M
    by_cases e : nI (npc 14 (O.1 v) + npc 14 (O.2.1 v)) = 0
    · rw [if_pos e]
      obtain ⟨e1, e2⟩ := free_same G.1.1 hn (free_small.mp e)
      rw [e1, e2] at hT
      rw [e1, e2]
      exact ⟨hT, G.up.2⟩
    · rw [if_neg e]; exact G.new ht hT G.2.1.1 hn
set_option maxRecDepth 10000 in
theorem op_isBelow (G : Gd t Lf O L W P R C M) (a b : Int32) : zP K yX8_isBelow cX8_isBelow 3 yX9_isBelow cX9_isBelow 3 (some .boolean) [.int a, .int b] (A, O, L, q, W, P, R, C, M) B Lf (cc, Of, g, f, mu, gb, ln, bs) t iV := by
  have hr := rmA0 A O L q W P R C M Lf G
  have hn := G.2.1.2
  by_cases h : hasb O.2.2.1 a = false ∨ hasb O.2.2.1 b = false
  · exact ⟨.int 0, O.2.2.1, Lf, ⟨_, rfl⟩, zG_D (A, O, L, q, W, P, R, C, M) (d_isBelow_no K A O L q W P R C M a b h) ⟨by decide, by decide⟩ hr rfl ⟨G.up, rfl⟩ rfl rfl, zH_D [20, 21] (cc, Of, g, f, mu, gb, ln, bs) (m_isBelow_no K B O.2.2.1 cc Lf a b h) ⟨rfl, rfl, by decide, by decide⟩ rfl (Nat.le_refl _) (fun _ => rfl) (fun _ => rfl)⟩
  · rw [not_or] at h
    obtain ⟨i, hi, rfl⟩ := hasb_ex (by omega) (hb_ft h.1)
    obtain ⟨j, hj, rfl⟩ := hasb_ex (by omega) (hb_ft h.2)
    have hm := m_isBelow K B O.2.2.1 cc Lf hi hj hn
    rw [G.1.2 i j hi hj] at hm
    exact ⟨.int (bI ((O.2.1 i).testBit j)), O.2.2.1, Lf, ⟨_, rfl⟩, zG_D (A, O, L, q, W, P, R, C, M) (d_isBelow K A O L q W P R C M hi hj hn G.ha) ⟨by decide, by decide⟩ hr rfl ⟨G.up, rfl⟩ rfl rfl, zH_D [20, 21] (cc, Of, g, f, mu, gb, ln, bs) hm ⟨rfl, rfl, by decide, by decide⟩ rfl (Nat.le_refl _) (fun _ => rfl) (fun _ => rfl)⟩
set_option maxRecDepth 10000 in
theorem op_covers (G : Gd t Lf O L W P R C M) (a : Int32) : zP K yX8_covers cX8_covers 2 yX9_covers cX9_covers 6 (some .int) [.int a] (A, O, L, q, W, P, R, C, M) B Lf (cc, Of, g, f, mu, gb, ln, bs) t iV := by
  have hr := rmA0 A O L q W P R C M Lf G
  have hn := G.2.1.2
  by_cases h : hasb O.2.2.1 a = false
  · exact ⟨.int (-1), O.2.2.1, Lf, ⟨_, rfl⟩, zG_D (A, O, L, q, W, P, R, C, M) (d_covers_no K A O L q W P R C M a h) ⟨by decide, by decide⟩ hr rfl ⟨G.up, rfl⟩ rfl rfl, zH_D [20, 21] (cc, Of, g, f, mu, gb, ln, bs) (m_covers_no K B O.2.2.1 cc Lf a h) ⟨rfl, rfl, by decide, by decide⟩ rfl (Nat.le_refl _) (fun _ => rfl) (fun _ => rfl)⟩
  · obtain ⟨v, hv, rfl⟩ := hasb_ex (by omega) (hb_ft h)
    have hm := m_covers K B O.2.2.1 cc Lf hv hn
    rw [cov_eq G.1 hv] at hm
    exact ⟨.int (nI (ocov O.2.1 v O.2.2.1)), O.2.2.1, Lf, ⟨_, rfl⟩, zG_D (A, O, L, q, W, P, R, C, M) (d_covers K A O L q W P R C M hv (by omega) hn G.hb G.ha) ⟨by decide, by decide⟩ hr rfl ⟨G.up, rfl⟩ rfl rfl, zH_D [20, 21] (cc, Of, g, f, mu, gb, ln, bs) hm ⟨rfl, rfl, by decide, by decide⟩ rfl (Nat.le_refl _) (fun _ => rfl) (fun _ => rfl)⟩
set_option maxRecDepth 10000 in
theorem op_chain (G : Gd t Lf O L W P R C M) (i : Int32) : zP K yX8_chain cX8_chain 2 yX9_chain cX9_chain 3 (some .int) [.int i] (A, O, L, q, W, P, R, C, M) B Lf (cc, Of, g, f, mu, gb, ln, bs) t iV := by
  have hr := rmA0 A O L q W P R C M Lf G
  have hn := G.2.1.2
  obtain ⟨c1, c2⟩ := chain_eq G.1 G.2.1.1 hn ln bs
  refine ⟨.int (chAt O.2.1 O.2.2.1 i), O.2.2.1, Lf, ⟨_, rfl⟩, zG_0 (fun u : (Nat → Int32) × (Nat → Int32) => (A, O, (u.1, u.2, nI (plen O.2.1 O.2.2.1), O.2.2.2), q, W, P, R, C, M)) (d_chain K A O L q W P R C M i hn G.ha G.2.2.2.1) ⟨by decide, by decide⟩ hr (fun u hu => ⟨rfl, rfl, ⟨G.setL hu, rfl⟩, rfl, rfl⟩), ?_⟩
  by_cases h : hasb (plen O.2.1 O.2.2.1) i = false
  · have e : chAt O.2.1 O.2.2.1 i = -1 := by
      unfold chAt
      exact if_neg (of_decide_eq_false h)
    rw [e]
    exact zH_D [20, 21, 27, 28] (cc, Of, g, f, mu, gb, (zhF Lf O.2.2.1 ln bs (2 ^ O.2.2.1 - 1)).2.1, (zhF Lf O.2.2.1 ln bs (2 ^ O.2.2.1 - 1)).2.2) (m_chain_no K B O.2.2.1 cc Lf ln bs i (by rw [c1]; exact h) hn) ⟨rfl, rfl, by decide, by decide⟩ rfl (Nat.le_refl _) (fun _ => rfl) (fun _ => rfl)
  · have h := hb_ft h
    have hpl := plen_le O.2.1 O.2.2.1
    obtain ⟨j, hj, rfl⟩ := hasb_ex (by omega) h
    have e : chAt O.2.1 O.2.2.1 (nI j) = nI (cth O.2.1 O.2.2.1 j) := by
      unfold chAt
      rw [if_pos (of_decide_eq_true h), nI_clamp (by omega)]
    have hm := m_chain K B O.2.2.1 cc Lf ln bs (i := j) (by rw [c1]; exact hj) hn
    rw [c2 j hj] at hm
    rw [e]
    exact zH_D [20, 21, 27, 28] (cc, Of, g, f, mu, gb, (zhF Lf O.2.2.1 ln bs (2 ^ O.2.2.1 - 1)).2.1, (zhF Lf O.2.2.1 ln bs (2 ^ O.2.2.1 - 1)).2.2) hm ⟨rfl, rfl, by decide, by decide⟩ rfl (Nat.le_refl _) (fun _ => rfl) (fun _ => rfl)
set_option maxRecDepth 10000 in
theorem op_apart (G : Gd t Lf O L W P R C M) : zP K yX8_apart cX8_apart 1 yX9_apart cX9_apart 3 (some .int) [] (A, O, L, q, W, P, R, C, M) B Lf (cc, Of, g, f, mu, gb, ln, bs) t iV := by
  have hr := rmA0 A O L q W P R C M Lf G
  have hn := G.2.1.2
  have hw : (if W.2 = O.2.2.2 then W.1 else nI (capt O.1 O.2.1 O.2.2.1)) = nI (capt O.1 O.2.1 O.2.2.1) := by
    split
    · exact G.2.2.2.2.1 (by assumption)
    · rfl
  have hm := m_apart K B O.2.2.1 cc Lf hn
  rw [apart_eq G.1 hn] at hm
  refine ⟨.int (nI (capt O.1 O.2.1 O.2.2.1)), O.2.2.1, Lf, ⟨_, rfl⟩, zG_0 (fun u : zS => (A, O, L, u, ((if W.2 = O.2.2.2 then W.1 else nI (capt O.1 O.2.1 O.2.2.1)), O.2.2.2), P, R, C, M)) (d_apart K A O L q W P R C M hn G.ha) ⟨by decide, by decide⟩ hr (fun u hu => ⟨by rw [hw], rfl, ⟨G.setW hw, rfl⟩, rfl, rfl⟩), zH_D [20, 21] (cc, Of, g, f, mu, gb, ln, bs) hm ⟨rfl, rfl, by decide, by decide⟩ rfl (Nat.le_refl _) (fun _ => rfl) (fun _ => rfl)⟩
set_option maxRecDepth 10000 in
theorem op_next (G : Gd t Lf O L W P R C M) (a : Int32) : zP K yX8_next cX8_next 2 yX9_next cX9_next 8 (some .int) [.int a] (A, O, L, q, W, P, R, C, M) B Lf (cc, Of, g, f, mu, gb, ln, bs) t iV := by
  have hr := rmA0 A O L q W P R C M Lf G
  have hn := G.2.1.2
  by_cases h : hasb O.2.2.1 a = false
  · exact ⟨.int (-1), O.2.2.1, Lf, ⟨_, rfl⟩, zG_D (A, O, L, q, W, P, R, C, M) (d_next_no K A O L q W P R C M a h) ⟨by decide, by decide⟩ hr rfl ⟨G.up, rfl⟩ rfl rfl, zH_D [20, 21, 26] (cc, Of, g, f, mu, gb, ln, bs) (m_next_no K B O.2.2.1 cc Lf gb a h) ⟨rfl, rfl, by decide, by decide⟩ rfl (Nat.le_refl _) (fun _ => rfl) (fun _ => rfl)⟩
  · obtain ⟨v, hv, rfl⟩ := hasb_ex (by omega) (hb_ft h)
    refine ⟨.int (oI ((lkS O.2.1 O.2.2.1 O.2.2.1).2.2 v)), O.2.2.1, Lf, ⟨_, rfl⟩, zG_0 (fun u : zS × (Nat → Int32) => (A, O, L, u.1, W, (u.2, O.2.2.2), R, C, M)) (d_next K A O L q W P R C M hv hn G.ha G.2.2.2.2.2.1) ⟨by decide, by decide⟩ hr (fun u hu => ⟨rfl, rfl, ⟨G.setP hu, rfl⟩, rfl, rfl⟩), ⟨_, _, _, [20, 21, 26], _, _, _, m_next K B O.2.2.1 cc Lf gb hv hn, ⟨rfl, rfl, by decide, by decide⟩, rfl, fun _ => Nat.le_refl _, fun _ => rfl, fun u _ => ⟨?_, (cc, Of, g, f, mu, u, ln, bs), fun _ => rfl⟩⟩⟩
    rw [next_eq G.1 hn hv]
end OPS
