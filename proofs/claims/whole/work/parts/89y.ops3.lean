/-! ONE CALL: mu, muOfCuts, count -/
section OPU
variable (K : zK) (A : Nat → Nat) (O : dO) (L : dL) (q : zS) (W : dW) (P : dP) (R : dR) (C : dC) (M : dM) (B : Nat → Nat) (Lf : Nat → Bool) (cc : Int32) (Of : Nat → Bool) (g : Nat → Int64) (f mu gb ln bs : Nat → Int32) {t : Nat}
theorem zG_M {y : MethodName} {c : ByteArray} {m : Nat} {rt : Option FieldType} {ar : List Value} {ans : Value} {fm lc k : Nat} {z : Int32} (G : Gd t Lf O L W P R C M) (hk : k ≤ 16384)
    (hM : zM (S := Nat × Nat × (Nat → Int32) × (Nat → Int32)) K y c m rt (zqM fm M.2.2.1 k lc) ar (wD K A O L q W P R C M) (fun _ => True) (fun _ => some ans) (fun u => wD K (va_up (va_up A 18 u.1) 19 u.2.1) O L q W P R C (u.2.2.1, u.2.2.2, capA M.2.2.1 k, z))) (hr : fm ≤ 20 ∧ lc ≤ 500) : zG K y c m rt ar (A, O, L, q, W, P, R, C, M) ans (fun σ' => GdS (t + 1) Lf σ' ∧ σ'.2.1.2.2.1 = O.2.2.1) := by
  have hc := G.cpM hk
  have h9 := G.room
  refine ⟨Nat × Nat × (Nat → Int32) × (Nat → Int32), _, _, _, fun u : Nat × Nat × (Nat → Int32) × (Nat → Int32) => (va_up (va_up A 18 u.1) 19 u.2.1, O, L, q, W, P, R, C, (u.2.2.1, u.2.2.2, capA M.2.2.1 k, z)), hM, hr, ?_, fun u h => ⟨rfl, rfl, ⟨(G.setM hk).up, rfl⟩, ?_⟩⟩
  · show R.2.2.1 + C.2.1 + 2 * M.2.2.1 + 2 * (capA M.2.2.1 k - M.2.2.1) ≤ _ ∧ 300000 + 4 * R.2.2.1 + 2 * C.2.1 + 4 * M.2.2.1 + 4 * (capA M.2.2.1 k - M.2.2.1) ≤ _
    omega
  · show R.2.2.1 + C.2.1 + 2 * M.2.2.1 + 2 * (capA M.2.2.1 k - M.2.2.1) ≤ R.2.2.1 + C.2.1 + 2 * capA M.2.2.1 k ∧ 300000 + 4 * R.2.2.1 + 2 * C.2.1 + 4 * M.2.2.1 + 4 * (capA M.2.2.1 k - M.2.2.1) ≤ 300000 + 4 * R.2.2.1 + 2 * C.2.1 + 4 * capA M.2.2.1 k
    omega
theorem zG_CM {y : MethodName} {c : ByteArray} {m : Nat} {rt : Option FieldType} {ar : List Value} {ans : Value} {fm lc k : Nat} {z : Int32} (G : Gd t Lf O L W P R C M) (hk : k ≤ 16384)
    (hM : zM (S := (Nat × (Nat → Int32)) × Nat × Nat × (Nat → Int32) × (Nat → Int32)) K y c m rt (zq fm ((capR C.2.2.2 O.2.2.2 O.1 O.2.1 O.2.2.1 C.2.1 - C.2.1) + 2 * (capA M.2.2.1 k - M.2.2.1)) (2 * (capR C.2.2.2 O.2.2.2 O.1 O.2.1 O.2.2.1 C.2.1 - C.2.1) + 4 * (capA M.2.2.1 k - M.2.2.1)) lc) ar (wD K A O L q W P R C M) (fun u => clV O.1 O.2.1 O.2.2.1 (nI (cstop O.1 O.2.1 O.2.2.1 + 1)) u.1.2) (fun _ => some ans) (fun u => wD K (va_up (va_up (va_up A 16 u.1.1) 18 u.2.1) 19 u.2.2.1) O L q W P R (u.1.2, (capR C.2.2.2 O.2.2.2 O.1 O.2.1 O.2.2.1 C.2.1), nI (cstop O.1 O.2.1 O.2.2.1 + 1), O.2.2.2) (u.2.2.2.1, u.2.2.2.2, capA M.2.2.1 k, z))) (hr : fm ≤ 20 ∧ lc ≤ 500) : zG K y c m rt ar (A, O, L, q, W, P, R, C, M) ans (fun σ' => GdS (t + 1) Lf σ' ∧ σ'.2.1.2.2.1 = O.2.2.1) := by
  have hc := G.cpM hk
  have hd := G.cpC
  have h9 := G.room
  refine ⟨(Nat × (Nat → Int32)) × Nat × Nat × (Nat → Int32) × (Nat → Int32), _, _, _, fun u : (Nat × (Nat → Int32)) × Nat × Nat × (Nat → Int32) × (Nat → Int32) => (va_up (va_up (va_up A 16 u.1.1) 18 u.2.1) 19 u.2.2.1, O, L, q, W, P, R, (u.1.2, (capR C.2.2.2 O.2.2.2 O.1 O.2.1 O.2.2.1 C.2.1), nI (cstop O.1 O.2.1 O.2.2.1 + 1), O.2.2.2), (u.2.2.2.1, u.2.2.2.2, capA M.2.2.1 k, z)), hM, hr, ?_, fun u h => ⟨rfl, rfl, ⟨(G.setC h).setM hk, rfl⟩, ?_⟩⟩
  · show R.2.2.1 + C.2.1 + 2 * M.2.2.1 + ((capR C.2.2.2 O.2.2.2 O.1 O.2.1 O.2.2.1 C.2.1 - C.2.1) + 2 * (capA M.2.2.1 k - M.2.2.1)) ≤ _ ∧ 300000 + 4 * R.2.2.1 + 2 * C.2.1 + 4 * M.2.2.1 + (2 * (capR C.2.2.2 O.2.2.2 O.1 O.2.1 O.2.2.1 C.2.1 - C.2.1) + 4 * (capA M.2.2.1 k - M.2.2.1)) ≤ _
    omega
  · show R.2.2.1 + C.2.1 + 2 * M.2.2.1 + ((capR C.2.2.2 O.2.2.2 O.1 O.2.1 O.2.2.1 C.2.1 - C.2.1) + 2 * (capA M.2.2.1 k - M.2.2.1)) ≤ R.2.2.1 + capR C.2.2.2 O.2.2.2 O.1 O.2.1 O.2.2.1 C.2.1 + 2 * capA M.2.2.1 k ∧ 300000 + 4 * R.2.2.1 + 2 * C.2.1 + 4 * M.2.2.1 + (2 * (capR C.2.2.2 O.2.2.2 O.1 O.2.1 O.2.2.1 C.2.1 - C.2.1) + 4 * (capA M.2.2.1 k - M.2.2.1)) ≤ 300000 + 4 * R.2.2.1 + 2 * capR C.2.2.2 O.2.2.2 O.1 O.2.1 O.2.2.1 C.2.1 + 4 * capA M.2.2.1 k
    omega
set_option maxRecDepth 10000 in
theorem op_mu (G : Gd t Lf O L W P R C M) (a b : Int32) : zP K yX8_mu cX8_mu 5 yX9_mu cX9_mu 9 (some .int) [.int a, .int b] (A, O, L, q, W, P, R, C, M) B Lf (cc, Of, g, f, mu, gb, ln, bs) t iV := by
  have hr := rmA0 A O L q W P R C M Lf G
  have hn := G.2.1.2
  have gM := G.2.2.2.2.2.2.2.2
  by_cases h : hasb O.2.2.1 a = false ∨ hasb O.2.2.1 b = false
  · exact ⟨.int 0, O.2.2.1, Lf, ⟨_, rfl⟩, zG_D (A, O, L, q, W, P, R, C, M) (d_mu_no K A O L q W P R C M a b h) ⟨by decide, by decide⟩ hr rfl ⟨G.up, rfl⟩ rfl rfl, zH_D [20, 21, 25] (cc, Of, g, f, mu, gb, ln, bs) (m_mu_no K B O.2.2.1 cc Lf mu a b h) ⟨rfl, rfl, by decide, by decide⟩ rfl (Nat.le_refl _) (fun _ => rfl) (fun _ => rfl)⟩
  · rw [not_or] at h
    obtain ⟨i, hi, rfl⟩ := hasb_ex (by omega) (hb_ft h.1)
    obtain ⟨j, hj, rfl⟩ := hasb_ex (by omega) (hb_ft h.2)
    have hc := d_mu K A O L q W P R C M (i := i) (j := j) rfl hi hj hn G.hb G.ha gM.1 gM.2
    have hk := (mqS_ok (bt := (O.2.1 i ||| 2 ^ i) &&& (O.1 j ||| 2 ^ j)) G.hb O.2.2.1 hn).1
    have hl := G.1.2 i j hi hj
    by_cases h2 : i = j ∨ (O.2.1 i).testBit j = true
    · have hm := m_mu K B O.2.2.1 cc Lf mu hi hj hn (by rw [hl]; exact h2)
      rw [← mue_eq G.1 hi hj h2 mu] at hm
      exact ⟨_, O.2.2.1, Lf, ⟨_, rfl⟩, zG_M K A O L q W P R C M Lf G (by omega) hc ⟨by decide, by decide⟩, zH_D [20, 21, 25] (cc, Of, g, f, quH Lf O.2.2.1 i mu (O.2.2.1 + 1), gb, ln, bs) hm ⟨rfl, rfl, by decide, by decide⟩ rfl (Nat.le_refl _) (fun _ => rfl) (fun _ => rfl)⟩
    · rw [not_or] at h2
      have h3 : (O.2.1 i).testBit j = false := by
        cases e : (O.2.1 i).testBit j with
        | false => rfl
        | true => exact absurd e h2.2
      rw [h3] at hl
      rw [mue_0 G.1.1 h2.1 h3] at hc
      exact ⟨.int 0, O.2.2.1, Lf, ⟨_, rfl⟩, zG_M K A O L q W P R C M Lf G (by omega) hc ⟨by decide, by decide⟩, zH_D [20, 21, 25] (cc, Of, g, f, mu, gb, ln, bs) (m_mu_0 K B O.2.2.1 cc Lf mu hi hj hn h2.1 hl) ⟨rfl, rfl, by decide, by decide⟩ rfl (Nat.le_refl _) (fun _ => rfl) (fun _ => rfl)⟩
set_option maxRecDepth 10000 in
theorem op_muOfCuts (G : Gd t Lf O L W P R C M) (a b : Int32) : zP K yX8_muOfCuts cX8_muOfCuts 7 yX9_muOfCuts cX9_muOfCuts 7 (some .int) [.int a, .int b] (A, O, L, q, W, P, R, C, M) B Lf (cc, Of, g, f, mu, gb, ln, bs) t iV := by
  have hn := G.2.1.2
  have gC := G.2.2.2.2.2.2.2.1
  have gM := G.2.2.2.2.2.2.2.2
  have h14 := nb_all_lt hn
  have hs := cstop_le O.1 O.2.1 O.2.2.1
  obtain ⟨l1, l2, -⟩ := cut_list G.1
  by_cases h : hasb (cstop O.1 O.2.1 O.2.2.1 + 1) a = false ∨ hasb (cstop O.1 O.2.1 O.2.2.1 + 1) b = false
  · exact ⟨.int 0, O.2.2.1, Lf, ⟨_, rfl⟩, zG_C K A O L q W P R C M Lf G (d_muOfCuts_no K A O L q W P R C M a b h hn gC.1 gC.2.1 gC.2.2) ⟨by decide, by decide⟩, zH_D [20, 21, 24, 25] (nI (mcN Lf O.2.2.1), Of, g, fcA Lf O.2.2.1 f (2 ^ O.2.2.1), mu, gb, ln, bs) (m_muOfCuts_no K B O.2.2.1 cc Lf f mu a b (by rw [l1]; exact h) hn) ⟨rfl, rfl, by decide, by decide⟩ rfl (Nat.le_refl _) (fun _ => rfl) (fun _ => rfl)⟩
  · rw [not_or] at h
    obtain ⟨i, hi, rfl⟩ := hasb_ex (by omega) (hb_ft h.1)
    obtain ⟨j, hj, rfl⟩ := hasb_ex (by omega) (hb_ft h.2)
    have hc := d_muOfCuts K A O L q W P R C M (i := i) (j := j) (by omega) (by omega) hn gC.1 gC.2.1 gC.2.2 gM.1 gM.2
    have hk := (mcS_ok (bl := O.1) (ab := O.2.1) (n := O.2.2.1) (lo := cutv O.1 O.2.1 O.2.2.1 i) (hi := cutv O.1 O.2.1 O.2.2.1 j) (i := i) hn (j + 1 - i)).1
    by_cases h2 : ndf (cutv O.1 O.2.1 O.2.2.1 i) (cutv O.1 O.2.1 O.2.2.1 j) = 0
    · obtain ⟨hij, e⟩ := muc_eq G.1 (by omega) (by omega) h2 mu
      have hm := m_muOfCuts K B O.2.2.1 cc Lf f mu (i := i) (j := j) (by rw [l1]; exact hi) (by rw [l1]; exact hj) hij (by rw [l2 i (by omega), l2 j (by omega)]; exact h2) hn
      rw [← e] at hm
      exact ⟨_, O.2.2.1, Lf, ⟨_, rfl⟩, zG_CM K A O L q W P R C M Lf G (by omega) hc ⟨by decide, by decide⟩, zH_D [20, 21, 24, 25] (nI (mcN Lf O.2.2.1), Of, g, fcA Lf O.2.2.1 f (2 ^ O.2.2.1), mcX (mcV Lf O.2.2.1) i j mu (j + 1 - i), gb, ln, bs) hm ⟨rfl, rfl, by decide, by decide⟩ rfl (Nat.le_refl _) (fun _ => rfl) (fun _ => rfl)⟩
    · rw [muc_0 h2] at hc
      exact ⟨.int 0, O.2.2.1, Lf, ⟨_, rfl⟩, zG_CM K A O L q W P R C M Lf G (by omega) hc ⟨by decide, by decide⟩, zH_D [20, 21, 24, 25] (nI (mcN Lf O.2.2.1), Of, g, fcA Lf O.2.2.1 f (2 ^ O.2.2.1), mu, gb, ln, bs) (m_muOfCuts_0 K B O.2.2.1 cc Lf f mu (i := i) (j := j) (by rw [l1]; exact hi) (by rw [l1]; exact hj) (by rw [l2 i (by omega), l2 j (by omega)]; exact h2) hn) ⟨rfl, rfl, by decide, by decide⟩ rfl (Nat.le_refl _) (fun _ => rfl) (fun _ => rfl)⟩
theorem six_of {v : Int32} (h : hasb 6 v = false) : v.toInt < 0 ∨ 5 < v.toInt := by
  have h := of_decide_eq_false h
  rw [Int32.le_iff_toInt_le, Int32.lt_iff_toInt_lt] at h
  have e3 : (nI 6).toInt = 6 := rfl
  have e4 : (0 : Int32).toInt = 0 := rfl
  omega
set_option maxRecDepth 10000 in
theorem op_count (G : Gd t Lf O L W P R C M) (v : Int32) : zP K yX8_count cX8_count 2 yX9_count cX9_count 4 (some .int) [.int v] (A, O, L, q, W, P, R, C, M) B Lf (cc, Of, g, f, mu, gb, ln, bs) t iV := by
  have hr := rmA0 A O L q W P R C M Lf G
  have hn := G.2.1.2
  by_cases h : hasb 6 v = false
  · exact ⟨.int (-1), O.2.2.1, Lf, ⟨_, rfl⟩, zG_D (A, O, L, q, W, P, R, C, M) (d_count_no K A O L q W P R C M v (six_of h)) ⟨by decide, by decide⟩ hr rfl ⟨G.up, rfl⟩ rfl rfl, zH_D [20, 21, 24, 27, 28] (cc, Of, g, f, mu, gb, ln, bs) (m_count_no K B O.2.2.1 cc Lf f ln bs v (six_of h)) ⟨rfl, rfl, by decide, by decide⟩ rfl (Nat.le_refl _) (fun _ => rfl) (fun _ => rfl)⟩
  obtain ⟨j, hj, rfl⟩ := hasb_ex (by decide) (hb_ft h)
  match j, hj with
  | 0, _ => exact ⟨.int (nI O.2.2.1), O.2.2.1, Lf, ⟨_, rfl⟩, zG_D (A, O, L, q, W, P, R, C, M) (d_count0 K A O L q W P R C M) ⟨by decide, by decide⟩ hr rfl ⟨G.up, rfl⟩ rfl rfl, zH_D [20, 21, 24, 27, 28] (cc, Of, g, f, mu, gb, ln, bs) (m_count0 K B O.2.2.1 cc Lf f ln bs) ⟨rfl, rfl, by decide, by decide⟩ rfl (Nat.le_refl _) (fun _ => rfl) (fun _ => rfl)⟩
  | 1, _ =>
    have hm := m_count1 K B O.2.2.1 cc Lf f ln bs hn
    rw [G.1.pairs hn] at hm
    exact ⟨.int (nI (osum O.2.1 O.2.2.1)), O.2.2.1, Lf, ⟨_, rfl⟩, zG_D (A, O, L, q, W, P, R, C, M) (d_count1 K A O L q W P R C M hn G.ha) ⟨by decide, by decide⟩ hr rfl ⟨G.up, rfl⟩ rfl rfl, zH_D [20, 21, 24, 27, 28] (cc, Of, g, f, mu, gb, ln, bs) hm ⟨rfl, rfl, by decide, by decide⟩ rfl (Nat.le_refl _) (fun _ => rfl) (fun _ => rfl)⟩
  | 2, _ =>
    obtain ⟨c1, -⟩ := chain_eq G.1 G.2.1.1 hn ln bs
    have hm := m_count2 K B O.2.2.1 cc Lf f ln bs hn
    rw [c1] at hm
    exact ⟨.int (nI (plen O.2.1 O.2.2.1)), O.2.2.1, Lf, ⟨_, rfl⟩, zG_0 (fun u : (Nat → Int32) × (Nat → Int32) => (A, O, (u.1, u.2, nI (plen O.2.1 O.2.2.1), O.2.2.2), q, W, P, R, C, M)) (d_count2 K A O L q W P R C M hn G.ha G.2.2.2.1) ⟨by decide, by decide⟩ hr (fun u hu => ⟨rfl, rfl, ⟨G.setL hu, rfl⟩, rfl, rfl⟩), zH_D [20, 21, 24, 27, 28] (cc, Of, g, f, mu, gb, (zhF Lf O.2.2.1 ln bs (2 ^ O.2.2.1 - 1)).2.1, (zhF Lf O.2.2.1 ln bs (2 ^ O.2.2.1 - 1)).2.2) hm ⟨rfl, rfl, by decide, by decide⟩ rfl (Nat.le_refl _) (fun _ => rfl) (fun _ => rfl)⟩
  | 3, _ =>
    have hcl := capt_lt G.1.1 hn
    have hp : 2 ^ O.2.2.1 ≤ 2 ^ 14 := Nat.pow_le_pow_right (by decide) hn
    have hw : (if W.2 = O.2.2.2 then W.1 else nI (capt O.1 O.2.1 O.2.2.1)) = nI (capt O.1 O.2.1 O.2.2.1) := by
      split
      · exact G.2.2.2.2.1 (by assumption)
      · rfl
    have hm := m_count3 K B O.2.2.1 cc Lf f ln bs hn
    rw [apart_eq G.1 hn, npc_eq hcl (show O.2.2.1 ≤ 31 by omega) hn] at hm
    exact ⟨.int (nI (npc 14 (capt O.1 O.2.1 O.2.2.1))), O.2.2.1, Lf, ⟨_, rfl⟩, zG_0 (fun u : zS => (A, O, L, u, (nI (capt O.1 O.2.1 O.2.2.1), O.2.2.2), P, R, C, M)) (d_count3 K A O L q W P R C M hn G.ha (Nat.lt_of_lt_of_le hcl hp) hw) ⟨by decide, by decide⟩ hr (fun u hu => ⟨rfl, rfl, ⟨G.setW rfl, rfl⟩, rfl, rfl⟩), zH_D [20, 21, 24, 27, 28] (cc, Of, g, f, mu, gb, ln, bs) hm ⟨rfl, rfl, by decide, by decide⟩ rfl (Nat.le_refl _) (fun _ => rfl) (fun _ => rfl)⟩
  | 4, _ =>
    have gR := G.2.2.2.2.2.2.1
    have hm := m_count4 K B O.2.2.1 cc Lf f ln bs hn
    rw [← rIdl_eq G.1 hn] at hm
    exact ⟨.int (nI (rIdl O.1 O.2.2.1)), O.2.2.1, Lf, ⟨_, rfl⟩, zG_B K A O L q W P R C M Lf G (d_count4 K A O L q W P R C M hn G.hb gR.1 gR.2.1) ⟨by decide, by decide⟩ (fun u hu => ⟨rfl, G.setB hu⟩), zH_D [20, 21, 24, 27, 28] (cc, Of, g, f, mu, gb, ln, bs) hm ⟨rfl, rfl, by decide, by decide⟩ rfl (Nat.le_refl _) (fun _ => rfl) (fun _ => rfl)⟩
  | 5, _ =>
    have gC := G.2.2.2.2.2.2.2.1
    obtain ⟨l1, l2, -⟩ := cut_list G.1
    have hm := m_count5 K B O.2.2.1 cc Lf f ln bs hn
    exact ⟨.int (nI (cstop O.1 O.2.1 O.2.2.1 + 1)), O.2.2.1, Lf, ⟨_, rfl⟩, zG_C K A O L q W P R C M Lf G (d_count5 K A O L q W P R C M hn gC.1 gC.2.1 gC.2.2) ⟨by decide, by decide⟩, zH_D [20, 21, 24, 27, 28] (nI (mcN Lf O.2.2.1), Of, g, fcA Lf O.2.2.1 f (2 ^ O.2.2.1), mu, gb, ln, bs) (by rw [← l1]; exact hm) ⟨rfl, rfl, by decide, by decide⟩ rfl (Nat.le_refl _) (fun _ => rfl) (fun _ => rfl)⟩
  | k + 6, hk => exact absurd hk (by omega)
end OPU
