/-! ONE CALL: rows, before, places, row, rank; cuts; mu; count -/
section OPT
variable (K : zK) (A : Nat → Nat) (O : dO) (L : dL) (q : zS) (W : dW) (P : dP) (R : dR) (C : dC) (M : dM) (B : Nat → Nat) (Lf : Nat → Bool) (cc : Int32) (Of : Nat → Bool) (g : Nat → Int64) (f mu gb ln bs : Nat → Int32) {t : Nat}
theorem zG_B {y : MethodName} {c : ByteArray} {m : Nat} {rt : Option FieldType} {ar : List Value} {ans : Value} {fm lc : Nat} {es : Int32} {post : Nat × Nat × (Nat → Int64) → Prop} {ret : Nat × Nat × (Nat → Int64) → Option Value} (G : Gd t Lf O L W P R C M)
    (hM : zM K y c m rt (zqB fm R.2.2.2.2.1 O.2.2.2 O.2.2.1 R.2.2.1 lc) ar (wD K A O L q W P R C M) post ret (fun u => wD K (va_up (va_up A 13 u.1) 14 u.2.1) O L q W P (rBeg O.1 O.2.2.1, u.2.2, (capB R.2.2.2.2.1 O.2.2.2 O.2.2.1 R.2.2.1), nI (rIdl O.1 O.2.2.1), O.2.2.2, es) C M)) (hr : fm ≤ 20 ∧ lc ≤ 500)
    (hu : ∀ u, post u → ret u = some ans ∧ Gd (t + 1) Lf O L W P (rBeg O.1 O.2.2.1, u.2.2, (capB R.2.2.2.2.1 O.2.2.2 O.2.2.1 R.2.2.1), nI (rIdl O.1 O.2.2.1), O.2.2.2, es) C M) : zG K y c m rt ar (A, O, L, q, W, P, R, C, M) ans (fun σ' => GdS (t + 1) Lf σ' ∧ σ'.2.1.2.2.1 = O.2.2.1) := by
  have hc := G.cpB
  have h9 := G.room
  refine ⟨Nat × Nat × (Nat → Int64), _, _, _, fun u : Nat × Nat × (Nat → Int64) => (va_up (va_up A 13 u.1) 14 u.2.1, O, L, q, W, P, (rBeg O.1 O.2.2.1, u.2.2, (capB R.2.2.2.2.1 O.2.2.2 O.2.2.1 R.2.2.1), nI (rIdl O.1 O.2.2.1), O.2.2.2, es), C, M), hM, hr, ?_, fun u h => ⟨(hu u h).1, rfl, ⟨(hu u h).2, rfl⟩, ?_⟩⟩
  · show R.2.2.1 + C.2.1 + 2 * M.2.2.1 + (capB R.2.2.2.2.1 O.2.2.2 O.2.2.1 R.2.2.1 - R.2.2.1) ≤ _ ∧ 300000 + 4 * R.2.2.1 + 2 * C.2.1 + 4 * M.2.2.1 + 4 * (capB R.2.2.2.2.1 O.2.2.2 O.2.2.1 R.2.2.1 - R.2.2.1) ≤ _
    omega
  · show R.2.2.1 + C.2.1 + 2 * M.2.2.1 + (capB R.2.2.2.2.1 O.2.2.2 O.2.2.1 R.2.2.1 - R.2.2.1) ≤ capB R.2.2.2.2.1 O.2.2.2 O.2.2.1 R.2.2.1 + C.2.1 + 2 * M.2.2.1 ∧ 300000 + 4 * R.2.2.1 + 2 * C.2.1 + 4 * M.2.2.1 + 4 * (capB R.2.2.2.2.1 O.2.2.2 O.2.2.1 R.2.2.1 - R.2.2.1) ≤ 300000 + 4 * capB R.2.2.2.2.1 O.2.2.2 O.2.2.1 R.2.2.1 + 2 * C.2.1 + 4 * M.2.2.1
    omega
theorem zG_C {y : MethodName} {c : ByteArray} {m : Nat} {rt : Option FieldType} {ar : List Value} {ans : Value} {fm lc : Nat} (G : Gd t Lf O L W P R C M)
    (hM : zM (S := Nat × (Nat → Int32)) K y c m rt (zqC fm C.2.2.2 O.2.2.2 O.1 O.2.1 O.2.2.1 C.2.1 lc) ar (wD K A O L q W P R C M) (fun u => clV O.1 O.2.1 O.2.2.1 (nI (cstop O.1 O.2.1 O.2.2.1 + 1)) u.2) (fun _ => some ans) (fun u => (wD K (va_up A 16 u.1) O L q W P R (u.2, (capR C.2.2.2 O.2.2.2 O.1 O.2.1 O.2.2.1 C.2.1), nI (cstop O.1 O.2.1 O.2.2.1 + 1), O.2.2.2) M))) (hr : fm ≤ 20 ∧ lc ≤ 500) : zG K y c m rt ar (A, O, L, q, W, P, R, C, M) ans (fun σ' => GdS (t + 1) Lf σ' ∧ σ'.2.1.2.2.1 = O.2.2.1) := by
  have hc := G.cpC
  have h9 := G.room
  refine ⟨Nat × (Nat → Int32), _, _, _, fun u : Nat × (Nat → Int32) => (va_up A 16 u.1, O, L, q, W, P, R, (u.2, (capR C.2.2.2 O.2.2.2 O.1 O.2.1 O.2.2.1 C.2.1), nI (cstop O.1 O.2.1 O.2.2.1 + 1), O.2.2.2), M), hM, hr, ?_, fun u h => ⟨rfl, rfl, ⟨G.setC h, rfl⟩, ?_⟩⟩
  · show R.2.2.1 + C.2.1 + 2 * M.2.2.1 + (capR C.2.2.2 O.2.2.2 O.1 O.2.1 O.2.2.1 C.2.1 - C.2.1) ≤ _ ∧ 300000 + 4 * R.2.2.1 + 2 * C.2.1 + 4 * M.2.2.1 + 2 * (capR C.2.2.2 O.2.2.2 O.1 O.2.1 O.2.2.1 C.2.1 - C.2.1) ≤ _
    omega
  · show R.2.2.1 + C.2.1 + 2 * M.2.2.1 + (capR C.2.2.2 O.2.2.2 O.1 O.2.1 O.2.2.1 C.2.1 - C.2.1) ≤ R.2.2.1 + capR C.2.2.2 O.2.2.2 O.1 O.2.1 O.2.2.1 C.2.1 + 2 * M.2.2.1 ∧ 300000 + 4 * R.2.2.1 + 2 * C.2.1 + 4 * M.2.2.1 + 2 * (capR C.2.2.2 O.2.2.2 O.1 O.2.1 O.2.2.1 C.2.1 - C.2.1) ≤ 300000 + 4 * R.2.2.1 + 2 * capR C.2.2.2 O.2.2.2 O.1 O.2.1 O.2.2.1 C.2.1 + 4 * M.2.2.1
    omega
set_option maxRecDepth 10000 in
theorem op_rows (G : Gd t Lf O L W P R C M) : zP K yX8_rows cX8_rows 1 yX9_rows cX9_rows 1 (some .long) [] (A, O, L, q, W, P, R, C, M) B Lf (cc, Of, g, f, mu, gb, ln, bs) t jV := by
  have hn := G.2.1.2
  have gR := G.2.2.2.2.2.2.1
  have hm := m_rows K B O.2.2.1 cc Lf g hn
  rw [← rows_eq G.1 hn g] at hm
  exact ⟨.long (rBeg O.1 O.2.2.1 (2 ^ O.2.2.1 - 1)), O.2.2.1, Lf, ⟨_, rfl⟩, zG_B K A O L q W P R C M Lf G (d_rows K A O L q W P R C M hn G.hb gR.1 gR.2.1) ⟨by decide, by decide⟩ (fun u hu => ⟨rfl, G.setB hu⟩), zH_D [20, 21, 23] (cc, Of, foA Lf O.2.2.1 g, f, mu, gb, ln, bs) hm ⟨rfl, rfl, by decide, by decide⟩ rfl (Nat.le_refl _) (fun _ => rfl) (fun _ => rfl)⟩
set_option maxRecDepth 10000 in
theorem op_before (G : Gd t Lf O L W P R C M) (a b : Int32) : zP K yX8_before cX8_before 3 yX9_before cX9_before 4 (some .long) [.int a, .int b] (A, O, L, q, W, P, R, C, M) B Lf (cc, Of, g, f, mu, gb, ln, bs) t jV := by
  have hr := rmA0 A O L q W P R C M Lf G
  have hn := G.2.1.2
  have gR := G.2.2.2.2.2.2.1
  by_cases h : hasb O.2.2.1 a = false ∨ hasb O.2.2.1 b = false ∨ a = b
  · exact ⟨.long (-1), O.2.2.1, Lf, ⟨_, rfl⟩, zG_D (A, O, L, q, W, P, R, C, M) (d_before_no K A O L q W P R C M a b h) ⟨by decide, by decide⟩ hr rfl ⟨G.up, rfl⟩ rfl rfl, zH_D [20, 21, 22, 23] (cc, Of, g, f, mu, gb, ln, bs) (m_before_no K B O.2.2.1 cc Lf Of g a b h) ⟨rfl, rfl, by decide, by decide⟩ rfl (Nat.le_refl _) (fun _ => rfl) (fun _ => rfl)⟩
  · rw [not_or, not_or] at h
    obtain ⟨i, hi, rfl⟩ := hasb_ex (by omega) (hb_ft h.1)
    obtain ⟨j, hj, rfl⟩ := hasb_ex (by omega) (hb_ft h.2.1)
    have hij : i ≠ j := fun e => h.2.2 (by rw [e])
    have hc := d_before K A O L q W P R C M hi hj hij hn G.hb gR.1 gR.2.1 gR.2.2
    have hl := G.1.2 j i hj hi
    cases e : (O.2.1 j).testBit i with
    | true =>
      rw [e] at hl
      exact ⟨.long 0, O.2.2.1, Lf, ⟨_, rfl⟩, zG_B K A O L q W P R C M Lf G hc ⟨by decide, by decide⟩ (fun u hu => ⟨by rw [before_0 G.1 hn hu hj e], G.setE hu⟩), zH_D [20, 21, 22, 23] (cc, Of, g, f, mu, gb, ln, bs) (m_before_0 K B O.2.2.1 cc Lf Of g hi hj hij hn hl) ⟨rfl, rfl, by decide, by decide⟩ rfl (Nat.le_refl _) (fun _ => rfl) (fun _ => rfl)⟩
    | false =>
      rw [e] at hl
      exact ⟨.long (foA (clW O.2.2.1 257 (updB Lf (16 * i + j) true)) O.2.2.1 g (2 ^ O.2.2.1 - 1)), O.2.2.1, Lf, ⟨_, rfl⟩, zG_B K A O L q W P R C M Lf G hc ⟨by decide, by decide⟩ (fun u hu => ⟨by rw [before_eq G.1 hn hu g hi hj hij e], G.setE hu⟩), zH_D [20, 21, 22, 23] (cc, clW O.2.2.1 257 (updB Lf (16 * i + j) true), foA (clW O.2.2.1 257 (updB Lf (16 * i + j) true)) O.2.2.1 g, f, mu, gb, ln, bs) (m_before K B O.2.2.1 cc Lf Of g hi hj hij hn hl) ⟨rfl, rfl, by decide, by decide⟩ rfl (Nat.le_refl _) (fun _ => rfl) (fun _ => rfl)⟩
set_option maxRecDepth 10000 in
theorem op_places (G : Gd t Lf O L W P R C M) (a b : Int32) : zP K yX8_places cX8_places 3 yX9_places cX9_places 6 (some .long) [.int a, .int b] (A, O, L, q, W, P, R, C, M) B Lf (cc, Of, g, f, mu, gb, ln, bs) t jV := by
  have hr := rmA0 A O L q W P R C M Lf G
  have hn := G.2.1.2
  have gR := G.2.2.2.2.2.2.1
  by_cases h : hasb O.2.2.1 a = false ∨ hasb O.2.2.1 b = false
  · exact ⟨.long (-1), O.2.2.1, Lf, ⟨_, rfl⟩, zG_D (A, O, L, q, W, P, R, C, M) (d_places_no K A O L q W P R C M a b h) ⟨by decide, by decide⟩ hr rfl ⟨G.up, rfl⟩ rfl rfl, zH_D [20, 21, 23] (cc, Of, g, f, mu, gb, ln, bs) (m_places_no K B O.2.2.1 cc Lf g a b h) ⟨rfl, rfl, by decide, by decide⟩ rfl (Nat.le_refl _) (fun _ => rfl) (fun _ => rfl)⟩
  · rw [not_or] at h
    obtain ⟨i, hi, rfl⟩ := hasb_ex (by omega) (hb_ft h.1)
    obtain ⟨j, hj, rfl⟩ := hasb_ex (by omega) (hb_ft h.2)
    have hc := d_places K A O L q W P R C M hi hj hn G.hb gR.1 gR.2.1 gR.2.2
    exact ⟨.long (plS Lf O.2.2.1 i j (foA Lf O.2.2.1 g) (2 ^ O.2.2.1)), O.2.2.1, Lf, ⟨_, rfl⟩, zG_B K A O L q W P R C M Lf G hc ⟨by decide, by decide⟩ (fun u hu => ⟨by rw [places_eq G.1 hn hu g hi _ (Nat.le_refl _)], G.setE hu⟩), zH_D [20, 21, 23] (cc, Of, foA Lf O.2.2.1 g, f, mu, gb, ln, bs) (m_places K B O.2.2.1 cc Lf g hi hj hn) ⟨rfl, rfl, by decide, by decide⟩ rfl (Nat.le_refl _) (fun _ => rfl) (fun _ => rfl)⟩
set_option maxRecDepth 10000 in
theorem op_row (G : Gd t Lf O L W P R C M) (k : Int64) : zP K yX8_row cX8_row 3 yX9_row cX9_row 10 (some .long) [.long k] (A, O, L, q, W, P, R, C, M) B Lf (cc, Of, g, f, mu, gb, ln, bs) t jV := by
  have hn := G.2.1.2
  have gR := G.2.2.2.2.2.2.1
  have hc := d_row K A O L q W P R C M k G.2.1.1 hn G.hb gR.1 gR.2.1 gR.2.2
  by_cases h : k < 0 ∨ foA Lf O.2.2.1 g (2 ^ O.2.2.1 - 1) ≤ k
  · exact ⟨.long (-1), O.2.2.1, Lf, ⟨_, rfl⟩, zG_B K A O L q W P R C M Lf G hc ⟨by decide, by decide⟩ (fun u hu => ⟨by rw [row_no G.1 hn hu g h], G.setE hu⟩), zH_D [20, 21, 23] (cc, Of, foA Lf O.2.2.1 g, f, mu, gb, ln, bs) (m_row_no K B O.2.2.1 cc Lf g k hn h) ⟨rfl, rfl, by decide, by decide⟩ rfl (Nat.le_refl _) (fun _ => rfl) (fun _ => rfl)⟩
  · have hE : reV O.1 O.2.2.1 (ceS O.1 O.2.2.1 (rBeg O.1 O.2.2.1) (fun _ => 0) (2 ^ O.2.2.1 - 1)) := ⟨_, rfl⟩
    have he := row_eq G.1 G.2.1.1 hn hE g h
    exact ⟨.long (rnR O.1 O.2.2.1 (ceS O.1 O.2.2.1 (rBeg O.1 O.2.2.1) (fun _ => 0) (2 ^ O.2.2.1 - 1)) k), O.2.2.1, Lf, ⟨_, rfl⟩, zG_B K A O L q W P R C M Lf G hc ⟨by decide, by decide⟩ (fun u hu => ⟨by rw [Option.some.inj ((row_eq G.1 G.2.1.1 hn hu g h).symm.trans he)], G.setE hu⟩), zH_D [20, 21, 23] (cc, Of, foA Lf O.2.2.1 g, f, mu, gb, ln, bs) (m_row K B O.2.2.1 cc Lf g k hn h _ he) ⟨rfl, rfl, by decide, by decide⟩ rfl (Nat.le_refl _) (fun _ => rfl) (fun _ => rfl)⟩
set_option maxRecDepth 10000 in
theorem op_rank (G : Gd t Lf O L W P R C M) (k : Int64) : zP K yX8_rank cX8_rank 3 yX9_rank cX9_rank 9 (some .long) [.long k] (A, O, L, q, W, P, R, C, M) B Lf (cc, Of, g, f, mu, gb, ln, bs) t jV := by
  have hn := G.2.1.2
  have gR := G.2.2.2.2.2.2.1
  have hc := d_rank K A O L q W P R C M k hn G.hb gR.1 gR.2.1 gR.2.2
  exact ⟨.long (mkF Lf O.2.2.1 (foA Lf O.2.2.1 g) k 16 0 (2 ^ O.2.2.1 - 1)), O.2.2.1, Lf, ⟨_, rfl⟩, zG_B K A O L q W P R C M Lf G hc ⟨by decide, by decide⟩ (fun u hu => ⟨by rw [rank_eq G.1 hn hu g k], G.setE hu⟩), zH_D [20, 21, 23] (cc, Of, foA Lf O.2.2.1 g, f, mu, gb, ln, bs) (m_rank K B O.2.2.1 cc Lf g k hn) ⟨rfl, rfl, by decide, by decide⟩ rfl (Nat.le_refl _) (fun _ => rfl) (fun _ => rfl)⟩
set_option maxRecDepth 10000 in
theorem op_cut (G : Gd t Lf O L W P R C M) (k : Int32) : zP K yX8_cut cX8_cut 2 yX9_cut cX9_cut 2 (some .int) [.int k] (A, O, L, q, W, P, R, C, M) B Lf (cc, Of, g, f, mu, gb, ln, bs) t iV := by
  have hn := G.2.1.2
  have gC := G.2.2.2.2.2.2.2.1
  obtain ⟨l1, l2, -⟩ := cut_list G.1
  by_cases h : hasb (cstop O.1 O.2.1 O.2.2.1 + 1) k = false
  · exact ⟨.int (-1), O.2.2.1, Lf, ⟨_, rfl⟩, zG_C K A O L q W P R C M Lf G (d_cut_no K A O L q W P R C M k h hn gC.1 gC.2.1 gC.2.2) ⟨by decide, by decide⟩, zH_D [20, 21, 24] (nI (mcN Lf O.2.2.1), Of, g, fcA Lf O.2.2.1 f (2 ^ O.2.2.1), mu, gb, ln, bs) (m_cut_no K B O.2.2.1 cc Lf f k (by rw [l1]; exact h) hn) ⟨rfl, rfl, by decide, by decide⟩ rfl (Nat.le_refl _) (fun _ => rfl) (fun _ => rfl)⟩
  · have hs := cstop_le O.1 O.2.1 O.2.2.1
    have h14 := nb_all_lt hn
    obtain ⟨j, hj, rfl⟩ := hasb_ex (by omega) (hb_ft h)
    have hm := m_cut K B O.2.2.1 cc Lf f (j := j) (by rw [l1]; exact hj) hn
    rw [l2 j (by omega)] at hm
    exact ⟨.int (nI (cutv O.1 O.2.1 O.2.2.1 j)), O.2.2.1, Lf, ⟨_, rfl⟩, zG_C K A O L q W P R C M Lf G (d_cut K A O L q W P R C M (by omega) hn gC.1 gC.2.1 gC.2.2) ⟨by decide, by decide⟩, zH_D [20, 21, 24] (nI (mcN Lf O.2.2.1), Of, g, fcA Lf O.2.2.1 f (2 ^ O.2.2.1), mu, gb, ln, bs) hm ⟨rfl, rfl, by decide, by decide⟩ rfl (Nat.le_refl _) (fun _ => rfl) (fun _ => rfl)⟩
/-- the model's list of cuts is a list of cuts -/
theorem cut_Lm {n : Nat} {bl ab : Nat → Nat} {Lf : Nat → Bool} (h : Tied n bl ab Lf) : CutL bl ab n (mcN Lf n) (mcV Lf n) := by
  obtain ⟨l1, l2, -⟩ := cut_list h
  obtain ⟨c1, c2, c3⟩ := cut_L h
  rw [l1]
  refine ⟨fun i hi => ?_, fun i j hij hj => ?_, fun w hw hc => ?_⟩
  · rw [l2 i (by omega)]; exact c1 i hi
  · rw [l2 i (by omega), l2 j (by omega)]; exact c2 i j hij hj
  · obtain ⟨i, hi, e⟩ := c3 w hw hc
    exact ⟨i, hi, by rw [l2 i (by omega)]; exact e⟩
theorem least_eq {n : Nat} {bl ab : Nat → Nat} {Lf : Nat → Bool} (h : Tied n bl ab Lf) {s : Nat} (hs : s < 2 ^ n) : exS (mcV Lf n) true s (mcN Lf n) = nol bl ab n (clo bl ab n s) (cstop bl ab n + 1) := by
  obtain ⟨l1, l2, -⟩ := cut_list h
  obtain ⟨c1, c2, c3⟩ := cut_Lm h
  obtain ⟨i, hi, e⟩ := c3 _ (clo_lt2 h.1 s) (clo_idem h.1 s)
  rw [exS_over h.1 (cut_Lm h) hs hi e _ (Nat.le_refl _), if_pos hi, ← e, l2 i (by omega)]
  exact (nol_at h (by omega) _ (Nat.le_refl _) (by omega)).symm
theorem meet_eq {n : Nat} {bl ab : Nat → Nat} {Lf : Nat → Bool} (h : Tied n bl ab Lf) {i j : Nat} (hi : i ≤ cstop bl ab n) (hj : j ≤ cstop bl ab n) : exS (mcV Lf n) false (cutv bl ab n i &&& cutv bl ab n j) (mcN Lf n) = nol bl ab n (clo bl ab n (cutv bl ab n i &&& cutv bl ab n j)) (cstop bl ab n + 1) := by
  obtain ⟨l1, l2, -⟩ := cut_list h
  obtain ⟨d1, -, -⟩ := cut_L h
  obtain ⟨a1, a2⟩ := d1 i (by omega)
  obtain ⟨b1, b2⟩ := d1 j (by omega)
  have hc := clo_and h.1 a2 b2 a1
  obtain ⟨c1, c2, c3⟩ := cut_Lm h
  obtain ⟨k, hk, e⟩ := c3 _ (Nat.lt_of_le_of_lt Nat.and_le_left a1) hc
  rw [((exS_under (cut_Lm h) hk e) _ (Nat.le_refl _)).1 hk, hc, ← e, l2 k (by omega)]
  exact (nol_at h (by omega) _ (Nat.le_refl _) (by omega)).symm
theorem least_out {n : Nat} (hn : n ≤ 14) {v : Int32} (h : hasb (2 ^ n) v = false) : (¬ v &&& (nI (2 ^ n - 1) ^^^ (-1)) = 0) ∧ (v < 0 ∨ nI (2 ^ n - 1) < v) := by
  have hp := Nat.two_pow_pos n
  have h14 := nb_all_lt hn
  have hb := of_decide_eq_false h
  refine ⟨fun e => ?_, ?_⟩
  · have ev : v = nI v.toUInt32.toNat := by
      apply nb_ext
      intro i hi
      rw [nb_nI _ hi]
      rfl
    have hw : v.toUInt32.toNat < 2 ^ 32 := v.toUInt32.toNat_lt
    generalize v.toUInt32.toNat = w at ev hw
    rw [ev, nb_not] at e
    have h0 := (nb_0 (Nat.lt_of_le_of_lt (ndf_le _ _) hw)).mp e
    have hle := sub_le (ndf_0.mp h0)
    refine hb ?_
    rw [ev]
    exact of_decide_eq_true ((hasb_nI (by omega) (by omega)).trans (decide_eq_true (show w < 2 ^ n by omega)))
  · by_cases h0 : v < 0
    · exact Or.inl h0
    · refine Or.inr ?_
      apply Classical.byContradiction
      intro h1
      refine hb ⟨Int32.not_lt.mp h0, ?_⟩
      refine Int32.lt_of_le_of_lt (Int32.not_lt.mp h1) (nI_lt (by omega) (by omega))
set_option maxRecDepth 10000 in
theorem op_least (G : Gd t Lf O L W P R C M) (k : Int32) : zP K yX8_least cX8_least 2 yX9_least cX9_least 2 (some .int) [.int k] (A, O, L, q, W, P, R, C, M) B Lf (cc, Of, g, f, mu, gb, ln, bs) t iV := by
  have hr := rmA0 A O L q W P R C M Lf G
  have hn := G.2.1.2
  have gC := G.2.2.2.2.2.2.2.1
  have hp := Nat.two_pow_pos O.2.2.1
  have h14 := nb_all_lt hn
  by_cases h : hasb (2 ^ O.2.2.1) k = false
  · obtain ⟨h1, h2⟩ := least_out hn h
    exact ⟨.int (-1), O.2.2.1, Lf, ⟨_, rfl⟩, zG_D (A, O, L, q, W, P, R, C, M) (d_least_no K A O L q W P R C M k h1 hn) ⟨by decide, by decide⟩ hr rfl ⟨G.up, rfl⟩ rfl rfl, zH_D [20, 21, 24] (nI (mcN Lf O.2.2.1), Of, g, fcA Lf O.2.2.1 f (2 ^ O.2.2.1), mu, gb, ln, bs) (m_least_no K B O.2.2.1 cc Lf f k h2 hn) ⟨rfl, rfl, by decide, by decide⟩ rfl (Nat.le_refl _) (fun _ => rfl) (fun _ => rfl)⟩
  · obtain ⟨s, hs, rfl⟩ := hasb_ex (by omega) (hb_ft h)
    have hm := m_least K B O.2.2.1 cc Lf f hs hn
    rw [least_eq G.1 hs] at hm
    exact ⟨.int (oI (nol O.1 O.2.1 O.2.2.1 (clo O.1 O.2.1 O.2.2.1 s) (cstop O.1 O.2.1 O.2.2.1 + 1))), O.2.2.1, Lf, ⟨_, rfl⟩, zG_C K A O L q W P R C M Lf G (d_least K A O L q W P R C M (by omega) (ndf_0.mpr fun i hi => by rw [all_tb]; exact decide_eq_true (tb_lt_of hs hi)) hn gC.1 gC.2.1 gC.2.2) ⟨by decide, by decide⟩, zH_D [20, 21, 24] (nI (mcN Lf O.2.2.1), Of, g, fcA Lf O.2.2.1 f (2 ^ O.2.2.1), mu, gb, ln, bs) hm ⟨rfl, rfl, by decide, by decide⟩ rfl (Nat.le_refl _) (fun _ => rfl) (fun _ => rfl)⟩
set_option maxRecDepth 10000 in
theorem op_joined (G : Gd t Lf O L W P R C M) (a b me : Int32) : zP K yX8_joined cX8_joined 6 yX9_joined cX9_joined 4 (some .int) [.int a, .int b, .int me] (A, O, L, q, W, P, R, C, M) B Lf (cc, Of, g, f, mu, gb, ln, bs) t iV := by
  have hn := G.2.1.2
  have gC := G.2.2.2.2.2.2.2.1
  have h14 := nb_all_lt hn
  have hs := cstop_le O.1 O.2.1 O.2.2.1
  obtain ⟨l1, l2, -⟩ := cut_list G.1
  by_cases h : hasb (cstop O.1 O.2.1 O.2.2.1 + 1) a = false ∨ hasb (cstop O.1 O.2.1 O.2.2.1 + 1) b = false
  · exact ⟨.int (-1), O.2.2.1, Lf, ⟨_, rfl⟩, zG_C K A O L q W P R C M Lf G (d_joined_no K A O L q W P R C M a b me h hn gC.1 gC.2.1 gC.2.2) ⟨by decide, by decide⟩, zH_D [20, 21, 24] (nI (mcN Lf O.2.2.1), Of, g, fcA Lf O.2.2.1 f (2 ^ O.2.2.1), mu, gb, ln, bs) (m_joined_no K B O.2.2.1 cc Lf f a b me (by rw [l1]; exact h) hn) ⟨rfl, rfl, by decide, by decide⟩ rfl (Nat.le_refl _) (fun _ => rfl) (fun _ => rfl)⟩
  · rw [not_or] at h
    obtain ⟨i, hi, rfl⟩ := hasb_ex (by omega) (hb_ft h.1)
    obtain ⟨j, hj, rfl⟩ := hasb_ex (by omega) (hb_ft h.2)
    have hm := m_joined K B O.2.2.1 cc Lf f (i := i) (j := j) me (by rw [l1]; exact hi) (by rw [l1]; exact hj) hn
    have e : (if me = 0 then exS (mcV Lf O.2.2.1) true (mcV Lf O.2.2.1 i ||| mcV Lf O.2.2.1 j) (mcN Lf O.2.2.1) else exS (mcV Lf O.2.2.1) false (mcV Lf O.2.2.1 i &&& mcV Lf O.2.2.1 j) (mcN Lf O.2.2.1)) = nol O.1 O.2.1 O.2.2.1 (clo O.1 O.2.1 O.2.2.1 (if me = 0 then (cutv O.1 O.2.1 O.2.2.1 i) ||| (cutv O.1 O.2.1 O.2.2.1 j) else (cutv O.1 O.2.1 O.2.2.1 i) &&& (cutv O.1 O.2.1 O.2.2.1 j))) (cstop O.1 O.2.1 O.2.2.1 + 1) := by
      rw [l2 i (by omega), l2 j (by omega)]
      obtain ⟨d1, -, -⟩ := cut_L G.1
      by_cases h0 : me = 0
      · rw [if_pos h0, if_pos h0]
        exact least_eq G.1 (nb_lt_or (d1 i hi).1 (d1 j hj).1)
      · rw [if_neg h0, if_neg h0]
        exact meet_eq G.1 (by omega) (by omega)
    rw [e] at hm
    exact ⟨_, O.2.2.1, Lf, ⟨_, rfl⟩, zG_C K A O L q W P R C M Lf G (d_joined K A O L q W P R C M me (by omega) (by omega) hn gC.1 gC.2.1 gC.2.2) ⟨by decide, by decide⟩, zH_D [20, 21, 24] (nI (mcN Lf O.2.2.1), Of, g, fcA Lf O.2.2.1 f (2 ^ O.2.2.1), mu, gb, ln, bs) hm ⟨rfl, rfl, by decide, by decide⟩ rfl (Nat.le_refl _) (fun _ => rfl) (fun _ => rfl)⟩
end OPT
