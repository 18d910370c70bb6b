/-! CUTS: closing, the next one, the list -/
abbrev Sub (a b : Nat) : Prop := ∀ i, a.testBit i = true → b.testBit i = true
theorem Sub.eq {a b : Nat} (h1 : Sub a b) (h2 : Sub b a) : a = b := by
  apply Nat.eq_of_testBit_eq
  intro i
  rw [Bool.eq_iff_iff]
  exact ⟨h1 i, h2 i⟩
theorem clU_tb (r : Nat → Nat) (n s v : Nat) : ∀ k, (clU r n s k).testBit v = (decide (v < n) && allB (fun u => !s.testBit u || (r u ||| 2 ^ u).testBit v) k)
  | 0 => by
    show (2 ^ n - 1).testBit v = _
    rw [all_tb, allB, Bool.and_true]
  | k + 1 => by
    have ih := clU_tb r n s v k
    unfold clU allB
    split
    · rename_i h
      rw [Nat.testBit_and, ih, h, Bool.and_assoc]
      rfl
    · rename_i h
      rw [ih, Bool.eq_false_iff.mpr h]
      simp
section CUTM
variable {n : Nat} {bl ab : Nat → Nat} {Lf : Nat → Bool}
theorem memU (h : Ord n bl ab) (s v : Nat) : (clU ab n s n).testBit v = true ↔ v < n ∧ ∀ u, u < n → s.testBit u = true → ((ab u).testBit v = true ∨ u = v) := by
  rw [clU_tb, Bool.and_eq_true, decide_eq_true_eq, allB_iff]
  refine and_congr_right fun _ => ⟨fun g u hu hs => ?_, fun g u hu => ?_⟩
  · have := g u hu
    rw [hs, tb_or2] at this
    simpa using this
  · cases hs : s.testBit u with
    | false => rfl
    | true =>
      rw [tb_or2]
      simpa using g u hu hs
theorem memD (h : Ord n bl ab) (s v : Nat) : (clU bl n s n).testBit v = true ↔ v < n ∧ ∀ u, u < n → s.testBit u = true → ((ab v).testBit u = true ∨ u = v) := by
  rw [clU_tb, Bool.and_eq_true, decide_eq_true_eq, allB_iff]
  refine and_congr_right fun _ => ⟨fun g u hu hs => ?_, fun g u hu => ?_⟩
  · have := g u hu
    rw [hs, tb_or2, h.2.1] at this
    simpa using this
  · cases hs : s.testBit u with
    | false => rfl
    | true =>
      rw [tb_or2, h.2.1]
      simpa using g u hu hs
theorem above_eq (h : Tied n bl ab Lf) (s : Nat) : setB (qabove Lf n s) n = clU ab n s n := by
  refine Sub.eq (fun v hv => ?_) (fun v hv => ?_)
  · rw [setB_tb, Bool.and_eq_true, decide_eq_true_eq] at hv
    rw [memU h.1]
    refine ⟨hv.1, fun u hu hs => ?_⟩
    have := allB_iff.mp hv.2 u hu
    rw [hs, h.2 u v hu hv.1] at this
    simp at this
    exact this.symm
  · rw [memU h.1] at hv
    rw [setB_tb, decide_eq_true hv.1, Bool.true_and]
    refine allB_iff.mpr fun u hu => ?_
    cases hs : s.testBit u with
    | false => rfl
    | true =>
      rw [h.2 u v hu hv.1]
      simpa using (hv.2 u hu hs).symm
theorem below_eq (h : Tied n bl ab Lf) (s : Nat) : setB (qbelow Lf n s) n = clU bl n s n := by
  refine Sub.eq (fun v hv => ?_) (fun v hv => ?_)
  · rw [setB_tb, Bool.and_eq_true, decide_eq_true_eq] at hv
    rw [memD h.1]
    refine ⟨hv.1, fun u hu hs => ?_⟩
    have := allB_iff.mp hv.2 u hu
    rw [hs, h.2 v u hv.1 hu] at this
    simp at this
    exact this.symm
  · rw [memD h.1] at hv
    rw [setB_tb, decide_eq_true hv.1, Bool.true_and]
    refine allB_iff.mpr fun u hu => ?_
    cases hs : s.testBit u with
    | false => rfl
    | true =>
      rw [h.2 v u hv.1 hu]
      simpa using (hv.2 u hu hs).symm
theorem isCut_eq (h : Tied n bl ab Lf) (s : Nat) : isCut Lf n s = decide (clo bl ab n s = s) := by
  unfold isCut clo
  rw [above_eq h, below_eq h]
theorem clo_lt2 (h : Ord n bl ab) (s : Nat) : clo bl ab n s < 2 ^ n := tb_lt fun i hi => ((memD h _ i).mp hi).1
theorem clo_ext (h : Ord n bl ab) {s : Nat} (hs : s < 2 ^ n) : Sub s (clo bl ab n s) := by
  intro v hv
  refine (memD h _ v).mpr ⟨tb_lt_of hs hv, fun u hu hs2 => ?_⟩
  exact (((memU h _ u).mp hs2).2 v (tb_lt_of hs hv) hv).imp id Eq.symm
theorem clo_mono (h : Ord n bl ab) {s t : Nat} (hst : Sub s t) : Sub (clo bl ab n s) (clo bl ab n t) := by
  intro v hv
  have h1 := (memD h _ v).mp hv
  refine (memD h _ v).mpr ⟨h1.1, fun u hu hs2 => ?_⟩
  refine h1.2 u hu ?_
  have h2 := (memU h _ u).mp hs2
  exact (memU h _ u).mpr ⟨h2.1, fun w hw hs3 => h2.2 w hw (hst w hs3)⟩
theorem clo_idem (h : Ord n bl ab) (s : Nat) : clo bl ab n (clo bl ab n s) = clo bl ab n s := by
  refine Sub.eq ?_ (clo_ext h (clo_lt2 h s))
  intro v hv
  have h1 := (memD h _ v).mp hv
  refine (memD h _ v).mpr ⟨h1.1, fun u hu hs2 => ?_⟩
  refine h1.2 u hu ((memU h _ u).mpr ⟨hu, fun w hw hs3 => ?_⟩)
  exact (((memD h _ w).mp hs3).2 u hu hs2).imp id Eq.symm
theorem clo_all (h : Ord n bl ab) : clo bl ab n (2 ^ n - 1) = 2 ^ n - 1 := by
  have hp := Nat.two_pow_pos n
  refine Sub.eq (fun i hi => ?_) (clo_ext h (by omega))
  rw [all_tb]
  exact decide_eq_true ((memD h _ i).mp hi).1
theorem clo_and (h : Ord n bl ab) {s t : Nat} (hs : clo bl ab n s = s) (ht : clo bl ab n t = t) (hl : s < 2 ^ n) : clo bl ab n (s &&& t) = s &&& t := by
  refine Sub.eq (fun i hi => ?_) (clo_ext h (Nat.lt_of_le_of_lt Nat.and_le_left hl))
  have h1 := clo_mono h (s := s &&& t) (t := s) (fun i hi => by rw [Nat.testBit_and, Bool.and_eq_true] at hi; exact hi.1) i hi
  have h2 := clo_mono h (s := s &&& t) (t := t) (fun i hi => by rw [Nat.testBit_and, Bool.and_eq_true] at hi; exact hi.2) i hi
  rw [hs] at h1
  rw [ht] at h2
  rw [Nat.testBit_and, h1, h2]
  rfl
/-- the grown set -/
def grw (s v : Nat) : Nat := nhi s v ||| 2 ^ v
theorem grw_tb (s v i : Nat) : (grw s v).testBit i = true ↔ (v ≤ i ∧ s.testBit i = true) ∨ v = i := by
  unfold grw
  rw [tb_or2, nhi_tb]
  simp
def gcd' (bl ab : Nat → Nat) (n s v : Nat) : Prop := s.testBit v = false ∧ nhi (clo bl ab n (grw s v)) v = grw s v
theorem grw_lt {s v : Nat} (hs : s < 2 ^ n) (hv : v < n) : grw s v < 2 ^ n := tb_lt fun i hi => by
  rcases (grw_tb s v i).mp hi with h | h
  · exact tb_lt_of hs h.2
  · omega
theorem gcd_of (h : Ord n bl ab) {s w v : Nat} (hs : s < 2 ^ n) (hw : clo bl ab n w = w) (hv : v < n) (h1 : w.testBit v = true) (h2 : s.testBit v = false) (h3 : ∀ i, v < i → s.testBit i = w.testBit i) : gcd' bl ab n s v ∧ Sub (clo bl ab n (grw s v)) w := by
  have hg : Sub (grw s v) w := by
    intro i hi
    rcases (grw_tb s v i).mp hi with ⟨a, b⟩ | a
    · rcases Nat.eq_or_lt_of_le a with e | e
      · rw [← e, h2] at b; cases b
      · rw [← h3 i e]; exact b
    · rw [← a]; exact h1
  have hc : Sub (clo bl ab n (grw s v)) w := by
    intro i hi
    have := clo_mono h hg i hi
    rw [hw] at this
    exact this
  refine ⟨⟨h2, ?_⟩, hc⟩
  refine Sub.eq (fun i hi => ?_) (fun i hi => ?_)
  · rw [nhi_tb, Bool.and_eq_true, decide_eq_true_eq] at hi
    rw [grw_tb]
    rcases Nat.eq_or_lt_of_le hi.1 with e | e
    · exact Or.inr e
    · refine Or.inl ⟨hi.1, ?_⟩
      rw [h3 i e]
      exact hc i hi.2
  · have hi2 := clo_ext h (grw_lt hs hv) i hi
    rw [nhi_tb, hi2]
    rcases (grw_tb s v i).mp hi with a | a
    · rw [decide_eq_true a.1]; rfl
    · rw [decide_eq_true (Nat.le_of_eq a)]; rfl
theorem gcd_gt (h : Ord n bl ab) {s v : Nat} (hs : s < 2 ^ n) (hv : v < n) (hc : gcd' bl ab n s v) : (clo bl ab n (grw s v)).testBit v = true ∧ ∀ i, v < i → s.testBit i = (clo bl ab n (grw s v)).testBit i := by
  refine ⟨clo_ext h (grw_lt hs hv) v ((grw_tb s v v).mpr (Or.inr rfl)), fun i hi => ?_⟩
  have e := congrArg (fun z => z.testBit i) hc.2
  simp only [nhi_tb] at e
  rw [decide_eq_true (Nat.le_of_lt hi), Bool.true_and] at e
  rw [e, Bool.eq_iff_iff, grw_tb]
  exact ⟨fun q => Or.inl ⟨Nat.le_of_lt hi, q⟩, fun q => q.elim (fun z => z.2) (fun z => by omega)⟩
theorem flw_first (s : Nat) : ∀ m, m ≤ n → (∀ v, v < n - m → ¬ gcd' bl ab n s v) → (∃ v, v < n ∧ gcd' bl ab n s v) → ∃ v, v < n ∧ gcd' bl ab n s v ∧ (∀ u, u < v → ¬ gcd' bl ab n s u) ∧ flw bl ab n s m = clo bl ab n (grw s v)
  | 0, _, h, ⟨v, hv, hc⟩ => absurd hc (h v (by omega))
  | m + 1, hm, h, hex => by
    by_cases hc : gcd' bl ab n s (n - (m + 1))
    · exact ⟨n - (m + 1), by omega, hc, h, if_pos hc⟩
    · have e : flw bl ab n s (m + 1) = flw bl ab n s m := if_neg hc
      rw [e]
      refine flw_first s m (by omega) (fun v hv => ?_) hex
      rcases Nat.lt_or_ge v (n - (m + 1)) with h1 | h1
      · exact h v h1
      · rw [show v = n - (m + 1) by omega]; exact hc
theorem flw_spec (h : Ord n bl ab) {s : Nat} (hs : s < 2 ^ n) (hne : s ≠ 2 ^ n - 1) : clo bl ab n (flw bl ab n s n) = flw bl ab n s n ∧ s < flw bl ab n s n ∧ flw bl ab n s n < 2 ^ n ∧ ∀ w, w < 2 ^ n → clo bl ab n w = w → s < w → flw bl ab n s n ≤ w := by
  have hp := Nat.two_pow_pos n
  have ex : ∃ v, v < n ∧ gcd' bl ab n s v := by
    obtain ⟨v, a, b, c, d⟩ := hi_diff (w := 2 ^ n - 1) hs (by omega) (by omega)
    exact ⟨v, a, (gcd_of h hs (clo_all h) a b c d).1⟩
  obtain ⟨v, hv, hc, hmin, e⟩ := flw_first (bl := bl) (ab := ab) s n (Nat.le_refl _) (fun v hv => by omega) ex
  rw [e]
  have g := gcd_gt h hs hv hc
  refine ⟨clo_idem h _, lt_tb hc.1 g.1 g.2, clo_lt2 h _, fun w hw hcw hsw => ?_⟩
  obtain ⟨u, a, b, c, d⟩ := hi_diff hs hw hsw
  obtain ⟨hcu, hsub⟩ := gcd_of h hs hcw a b c d
  rcases Nat.lt_trichotomy v u with h1 | h1 | h1
  · refine Nat.le_of_lt (lt_tb (m := u) ?_ b (fun i hi => ?_))
    · rw [← g.2 u h1]; exact c
    · rw [← g.2 i (by omega)]; exact d i hi
  · subst h1
    exact sub_le hsub
  · exact absurd hcu (hmin u h1)
/-! the list -/
theorem fcN_mono (Lf : Nat → Bool) (n : Nat) {a b : Nat} (h : a ≤ b) : fcN Lf n a ≤ fcN Lf n b := by
  induction h with
  | refl => exact Nat.le_refl _
  | step _ ih => exact Nat.le_trans ih (Nat.le_add_right _ _)
theorem fcN_none (Lf : Nat → Bool) (n a : Nat) : ∀ d, (∀ k, a ≤ k → k < a + d → isCut Lf n k = false) → fcN Lf n (a + d) = fcN Lf n a
  | 0, _ => rfl
  | d + 1, h => by
    show fcN Lf n (a + d) + (isCut Lf n (a + d)).toNat = _
    rw [fcN_none Lf n a d (fun k h1 h2 => h k h1 (by omega)), h (a + d) (by omega) (by omega)]
    rfl
theorem fcV_at (Lf : Nat → Bool) (n s : Nat) (hs : isCut Lf n s = true) : ∀ k, s < k → fcV Lf n k (fcN Lf n s) = s
  | 0, h => absurd h (Nat.not_lt_zero _)
  | k + 1, h => by
    unfold fcV
    rcases Nat.eq_or_lt_of_le (Nat.le_of_lt_succ h) with e | e
    · subst e
      rw [if_pos ⟨hs, rfl⟩]
    · rw [if_neg, fcV_at Lf n s hs k e]
      intro q
      have h1 : fcN Lf n (s + 1) ≤ fcN Lf n k := fcN_mono Lf n e
      have h2 : fcN Lf n (s + 1) = fcN Lf n s + 1 := by rw [fcN, hs]; rfl
      omega
theorem cseq_ok (h : Tied n bl ab Lf) : ∀ i, (∀ k, k < i → cseq bl ab n k ≠ 2 ^ n - 1) → cseq bl ab n i < 2 ^ n ∧ clo bl ab n (cseq bl ab n i) = cseq bl ab n i ∧ fcN Lf n (cseq bl ab n i) = i
  | 0, _ => by
    refine ⟨clo_lt2 h.1 0, clo_idem h.1 0, ?_⟩
    have := fcN_none Lf n 0 (cseq bl ab n 0) (fun k _ hk => by
      rw [isCut_eq h]
      refine decide_eq_false fun e => ?_
      have h1 : Sub (clo bl ab n 0) k := by
        have := clo_mono h.1 (s := 0) (t := k) (fun i hi => by rw [Nat.zero_testBit] at hi; cases hi)
        rw [e] at this
        exact this
      have h2 := sub_le h1
      have hk : k < 0 + clo bl ab n 0 := hk
      omega)
    rw [Nat.zero_add] at this
    exact this
  | i + 1, hne => by
    obtain ⟨a, b, c⟩ := cseq_ok h i (fun k hk => hne k (by omega))
    obtain ⟨f1, f2, f3, f4⟩ := flw_spec h.1 a (hne i (by omega))
    refine ⟨f3, f1, ?_⟩
    show fcN Lf n (flw bl ab n (cseq bl ab n i) n) = i + 1
    have e1 : fcN Lf n (cseq bl ab n i + 1) = i + 1 := by
      rw [fcN, isCut_eq h, decide_eq_true b, c]
      rfl
    have := fcN_none Lf n (cseq bl ab n i + 1) (flw bl ab n (cseq bl ab n i) n - (cseq bl ab n i + 1)) (fun k h1 h2 => by
      rw [isCut_eq h]
      refine decide_eq_false fun e => ?_
      have := f4 k (by omega) e (by omega)
      omega)
    rw [show cseq bl ab n i + 1 + (flw bl ab n (cseq bl ab n i) n - (cseq bl ab n i + 1)) = flw bl ab n (cseq bl ab n i) n by omega] at this
    rw [this, e1]
theorem cstp_ok (h : Tied n bl ab Lf) : ∀ m i, i + m = 2 ^ n - 1 → (∀ k, k < i → cseq bl ab n k ≠ 2 ^ n - 1) → cseq bl ab n (cstp bl ab n m i) = 2 ^ n - 1 ∧ ∀ k, k < cstp bl ab n m i → cseq bl ab n k ≠ 2 ^ n - 1
  | 0, i, hi, hne => by
    obtain ⟨a, b, c⟩ := cseq_ok h i hne
    refine ⟨?_, hne⟩
    show cseq bl ab n i = _
    have := fcN_le Lf n (cseq bl ab n i)
    omega
  | m + 1, i, hi, hne => by
    unfold cstp
    split
    · rename_i e
      exact ⟨e, hne⟩
    · rename_i e
      refine cstp_ok h m (i + 1) (by omega) (fun k hk => ?_)
      rcases Nat.lt_or_ge k i with h1 | h1
      · exact hne k h1
      · rw [show k = i by omega]; exact e
theorem cut_list (h : Tied n bl ab Lf) : mcN Lf n = cstop bl ab n + 1 ∧ (∀ j, j ≤ cstop bl ab n → mcV Lf n j = cutv bl ab n j) ∧ (∀ j, j ≤ cstop bl ab n → cutv bl ab n j = cseq bl ab n j ∧ cseq bl ab n j < 2 ^ n ∧ clo bl ab n (cseq bl ab n j) = cseq bl ab n j ∧ fcN Lf n (cseq bl ab n j) = j) := by
  have hp := Nat.two_pow_pos n
  obtain ⟨h1, h2⟩ := cstp_ok h (2 ^ n - 1) 0 (by omega) (fun k hk => absurd hk (Nat.not_lt_zero _))
  have h3 : ∀ j, j ≤ cstop bl ab n → cutv bl ab n j = cseq bl ab n j ∧ cseq bl ab n j < 2 ^ n ∧ clo bl ab n (cseq bl ab n j) = cseq bl ab n j ∧ fcN Lf n (cseq bl ab n j) = j := by
    intro j hj
    refine ⟨?_, cseq_ok h j (fun k hk => h2 k (by show k < cstop bl ab n; omega))⟩
    unfold cutv
    split
    · rfl
    · rename_i hj2
      rw [show j = cstop bl ab n by omega]
      exact h1.symm
  have hlast := h3 (cstop bl ab n) (Nat.le_refl _)
  have hl : cseq bl ab n (cstop bl ab n) = 2 ^ n - 1 := h1
  refine ⟨?_, fun j hj => ?_, h3⟩
  · have e : 2 ^ n = 2 ^ n - 1 + 1 := by omega
    show fcN Lf n (2 ^ n) = _
    rw [e, fcN, isCut_eq h, decide_eq_true (clo_all h.1)]
    have := hlast.2.2.2
    rw [hl] at this
    rw [this]
    rfl
  · obtain ⟨a, b, c, d⟩ := h3 j hj
    have := fcV_at Lf n (cseq bl ab n j) (by rw [isCut_eq h, decide_eq_true c]) (2 ^ n) b
    rw [d] at this
    rw [a]
    exact this
/-- a list of all closed sets, by number -/
def CutL (bl ab : Nat → Nat) (n N : Nat) (cv : Nat → Nat) : Prop := (∀ i, i < N → cv i < 2 ^ n ∧ clo bl ab n (cv i) = cv i) ∧ (∀ i j, i < j → j < N → cv i < cv j) ∧ ∀ w, w < 2 ^ n → clo bl ab n w = w → ∃ i, i < N ∧ cv i = w
theorem cut_L (h : Tied n bl ab Lf) : CutL bl ab n (cstop bl ab n + 1) (cutv bl ab n) := by
  obtain ⟨h1, h2, h3⟩ := cut_list h
  refine ⟨fun i hi => ?_, fun i j hij hj => ?_, fun w hw hc => ?_⟩
  · obtain ⟨a, b, c, d⟩ := h3 i (by omega)
    rw [a]
    exact ⟨b, c⟩
  · obtain ⟨a, b, c, d⟩ := h3 i (by omega)
    obtain ⟨a2, b2, c2, d2⟩ := h3 j (by omega)
    rw [a, a2]
    refine Nat.lt_of_not_le fun hle => ?_
    have := fcN_mono Lf n hle
    omega
  · have hcut : isCut Lf n w = true := by rw [isCut_eq h, decide_eq_true hc]
    have e := fcV_at Lf n w hcut (2 ^ n) hw
    have hlt : fcN Lf n w < mcN Lf n := by
      have a1 : fcN Lf n (w + 1) = fcN Lf n w + 1 := by rw [fcN, hcut]; rfl
      have a2 := fcN_mono Lf n (show w + 1 ≤ 2 ^ n by omega)
      show fcN Lf n w < fcN Lf n (2 ^ n)
      omega
    refine ⟨fcN Lf n w, by omega, ?_⟩
    rw [← h2 _ (by omega)]
    exact e
theorem CutL.inj {N : Nat} {cv : Nat → Nat} (L : CutL bl ab n N cv) {i j : Nat} (hi : i < N) (hj : j < N) (e : cv i = cv j) : i = j := by
  rcases Nat.lt_trichotomy i j with h | h | h
  · have := L.2.1 i j h hj; omega
  · exact h
  · have := L.2.1 j i h hi; omega
theorem CutL.le {N : Nat} {cv : Nat → Nat} (L : CutL bl ab n N cv) {i j : Nat} (hi : i < N) (hj : j < N) (e : cv i ≤ cv j) : i ≤ j := by
  refine Nat.le_of_not_lt fun h => ?_
  have := L.2.1 j i h hi
  omega
theorem nol_at (h : Tied n bl ab Lf) {i : Nat} (hi : i ≤ cstop bl ab n) : ∀ m, m ≤ cstop bl ab n + 1 → cstop bl ab n + 1 - m ≤ i → nol bl ab n (cutv bl ab n i) m = some i
  | 0, _, h2 => absurd h2 (by omega)
  | m + 1, h1, h2 => by
    unfold nol
    split
    · rename_i e
      rw [(cut_L h).inj (by omega) (by omega) e]
    · rename_i e
      refine nol_at h hi m (by omega) ?_
      rcases Nat.eq_or_lt_of_le h2 with z | z
      · exact absurd (by rw [z]) e
      · omega
theorem exS_over {N : Nat} {cv : Nat → Nat} (h : Ord n bl ab) (L : CutL bl ab n N cv) {s i : Nat} (hs : s < 2 ^ n) (hi : i < N) (he : cv i = clo bl ab n s) : ∀ k, k ≤ N → exS cv true s k = if i < k then some i else none
  | 0, _ => by rw [if_neg (Nat.not_lt_zero _)]; rfl
  | k + 1, hk => by
    have ih := exS_over h L hs hi he k (by omega)
    have fits : exF cv true s k = true ↔ Sub s (cv k) := by
      unfold exF
      rw [if_pos rfl, decide_eq_true_eq]
      refine ⟨fun e j hj => ?_, fun e => ?_⟩
      · rw [← e, Nat.testBit_and, Bool.and_eq_true] at hj
        exact hj.1
      · refine Sub.eq (fun j hj => ?_) (fun j hj => ?_)
        · rw [Nat.testBit_and, Bool.and_eq_true] at hj; exact hj.2
        · rw [Nat.testBit_and, e j hj, hj]; rfl
    have hin : Sub s (cv k) → i ≤ k := fun e => by
      have h1 := clo_mono h e
      rw [(L.1 k (by omega)).2, ← he] at h1
      exact L.le hi (by omega) (sub_le h1)
    unfold exS
    rw [ih]
    rcases Nat.lt_trichotomy i k with h1 | h1 | h1
    · rw [if_pos h1, if_pos (show i < k + 1 by omega), if_neg]
      rw [exB_1 rfl]
      intro q
      rw [Bool.and_eq_true, decide_eq_true_eq, ndf_0] at q
      have := sub_le q.2
      have := L.2.1 i k h1 (by omega)
      omega
    · subst h1
      rw [if_neg (Nat.lt_irrefl i), if_pos (Nat.lt_succ_self i), if_pos]
      rw [fits.mpr (by rw [he]; exact clo_ext h hs)]
      rfl
    · rw [if_neg (show ¬ i < k by omega), if_neg (show ¬ i < k + 1 by omega), if_neg]
      intro q
      rw [Bool.and_eq_true] at q
      have := hin (fits.mp q.1)
      omega
theorem exS_under {N : Nat} {cv : Nat → Nat} (L : CutL bl ab n N cv) {s i : Nat} (hi : i < N) (he : cv i = s) : ∀ k, k ≤ N → (i < k → exS cv false s k = some i) ∧ (∀ j, exS cv false s k = some j → Sub (cv j) s)
  | 0, _ => ⟨fun h => absurd h (Nat.not_lt_zero _), fun j h => by cases h⟩
  | k + 1, hk => by
    obtain ⟨ih1, ih2⟩ := exS_under L hi he k (by omega)
    have fits : exF cv false s k = true → Sub (cv k) s := by
      unfold exF
      rw [if_neg (by decide), decide_eq_true_eq, ndf_0]
      exact id
    refine ⟨fun h => ?_, fun j hj => ?_⟩
    · unfold exS
      rcases Nat.eq_or_lt_of_le (Nat.le_of_lt_succ h) with e | e
      · subst e
        rw [if_pos]
        rw [Bool.and_eq_true]
        refine ⟨?_, ?_⟩
        · unfold exF
          rw [if_neg (by decide), decide_eq_true_eq, ndf_0, he]
          exact fun _ z => z
        · cases ho : exS cv false s i with
          | none => rfl
          | some j =>
            rw [exB_0 rfl, decide_eq_true_eq, ndf_0, he]
            exact ih2 j ho
      · rw [if_neg, ih1 e]
        intro q
        rw [Bool.and_eq_true] at q
        have := sub_le (fits q.1)
        have := L.2.1 i k e (by omega)
        omega
    · unfold exS at hj
      split at hj
      · rename_i q
        rw [Bool.and_eq_true] at q
        cases hj
        exact fits q.1
      · exact ih2 j hj
end CUTM
