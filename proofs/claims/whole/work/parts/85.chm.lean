/-! CHAINS: layers, the least longest chain -/
theorem tpS_tb (ab : Nat → Nat) (s v : Nat) : ∀ k, (tpS ab s k).testBit v = true ↔ v < k ∧ mayB ab s v = true
  | 0 => by
    show (0 : Nat).testBit v = true ↔ _
    rw [Nat.zero_testBit]
    exact ⟨(fun h => by cases h), (fun h => absurd h.1 (Nat.not_lt_zero _))⟩
  | k + 1 => by
    have ih := tpS_tb ab s v k
    unfold tpS
    have hq : (s.testBit k = true ∧ ab k &&& s = 0) ↔ mayB ab s k = true := by
      unfold mayB
      rw [Bool.and_eq_true, decide_eq_true_eq]
    by_cases q : s.testBit k = true ∧ ab k &&& s = 0
    · rw [if_pos q, tb_or2, Bool.or_eq_true, decide_eq_true_eq, ih]
      refine ⟨fun z => ?_, fun z => ?_⟩
      · rcases z with z | z
        · exact ⟨by omega, z.2⟩
        · rw [← z]; exact ⟨Nat.lt_succ_self k, hq.mp q⟩
      · by_cases e : k = v
        · exact Or.inr e
        · exact Or.inl ⟨by omega, z.2⟩
    · rw [if_neg q, ih]
      refine ⟨fun z => ⟨by omega, z.2⟩, fun z => ⟨?_, z.2⟩⟩
      rcases Nat.eq_or_lt_of_le (Nat.le_of_lt_succ z.1) with e | e
      · rw [e] at z; exact absurd (hq.mpr z.2) q
      · exact e
section CHM
variable {n : Nat} {bl ab : Nat → Nat} {Lf : Nat → Bool}
theorem lft_ltn (ab : Nat → Nat) (n : Nat) : ∀ i, lft ab n i < 2 ^ n
  | 0 => by have := Nat.two_pow_pos n; show 2 ^ n - 1 < _; omega
  | i + 1 => Nat.lt_of_le_of_lt (ndf_le _ _) (lft_ltn ab n i)
theorem lft_sub (ab : Nat → Nat) (n i : Nat) : ∀ d, Sub (lft ab n (i + d)) (lft ab n i)
  | 0 => fun _ h => h
  | d + 1 => fun v hv => by
    have hv : (ndf (lft ab n (i + d)) (tpS ab (lft ab n (i + d)) n)).testBit v = true := hv
    rw [ndf_tb, Bool.and_eq_true] at hv
    exact lft_sub ab n i d v hv.1
/-- v comes off in layer i -/
abbrev lay (ab : Nat → Nat) (n i v : Nat) : Prop := mayB ab (lft ab n i) v = true
theorem lft_next (ab : Nat → Nat) (n i v : Nat) : (lft ab n (i + 1)).testBit v = true ↔ (lft ab n i).testBit v = true ∧ ¬ lay ab n i v := by
  show (ndf (lft ab n i) (tpS ab (lft ab n i) n)).testBit v = true ↔ _
  rw [ndf_tb, Bool.and_eq_true, Bool.not_eq_true']
  refine and_congr_right fun h => ?_
  rw [Bool.eq_false_iff, ne_eq, tpS_tb]
  exact ⟨fun q z => q ⟨tb_lt_of (lft_ltn ab n i) h, z⟩, fun q z => q z.2⟩
theorem lay_lt {u v a b : Nat} (hu : lay ab n a u) (hv : lay ab n b v) (h : (ab u).testBit v = true) : b < a := by
  refine Nat.lt_of_not_le fun hle => ?_
  obtain ⟨d, rfl⟩ : ∃ d, b = a + d := ⟨b - a, by omega⟩
  have h1 := lft_sub ab n a d v (mayB_iff.mp hv).1
  have h2 := (mayB_iff.mp hu).2 v h
  rw [h1] at h2
  cases h2
theorem lay_eq {v a b : Nat} (ha : lay ab n a v) (hb : lay ab n b v) : a = b := by
  have key : ∀ a b, lay ab n a v → lay ab n b v → ¬ a < b := by
    intro a b ha hb hlt
    obtain ⟨d, rfl⟩ : ∃ d, b = a + 1 + d := ⟨b - (a + 1), by omega⟩
    have h1 := lft_sub ab n (a + 1) d v (mayB_iff.mp hb).1
    exact ((lft_next ab n a v).mp h1).2 ha
  have h1 := key a b ha hb
  have h2 := key b a hb ha
  omega
theorem lay_up (h : Ord n bl ab) {i v : Nat} (hv : lay ab n (i + 1) v) : ∃ w, (ab v).testBit w = true ∧ lay ab n i w := by
  obtain ⟨v1, v2⟩ := mayB_iff.mp hv
  obtain ⟨a, b⟩ := (lft_next ab n i v).mp v1
  have : ∃ w, (ab v).testBit w = true ∧ (lft ab n i).testBit w = true := by
    refine Classical.byContradiction fun q => b (mayB_iff.mpr ⟨a, fun u hu => ?_⟩)
    cases z : (lft ab n i).testBit u with
    | false => rfl
    | true => exact absurd ⟨u, hu, z⟩ q
  obtain ⟨w, w1, w2⟩ := this
  refine ⟨w, w1, Classical.byContradiction fun q => ?_⟩
  have := (lft_next ab n i w).mpr ⟨w2, q⟩
  rw [v2 w w1] at this
  cases this
theorem lft_npc (h : Ord n bl ab) : ∀ i, lft ab n i ≠ 0 → npc n (lft ab n i) + i ≤ n
  | 0, _ => by have := npc_le n (lft ab n 0); omega
  | i + 1, h0 => by
    have hne : lft ab n i ≠ 0 := fun e => h0 (by
      show ndf (lft ab n i) _ = 0
      rw [e]
      exact ndf_0.mpr fun j hj => by rw [Nat.zero_testBit] at hj; cases hj)
    have ih := lft_npc h i hne
    obtain ⟨v, hv, q⟩ := may_ab h (lft_ltn ab n i) hne
    have h1 : npc n (lft ab n (i + 1)) ≤ npc n (ndf (lft ab n i) (2 ^ v)) := npc_mono fun j _ hj => by
      obtain ⟨a, b⟩ := (lft_next ab n i j).mp hj
      exact (clr_tb _ v j).mpr ⟨a, fun e => by rw [← e] at b; exact b q⟩
    have h2 := npc_clr hv (mayB_iff.mp q).1
    omega
theorem lft_end (h : Ord n bl ab) : lft ab n n = 0 := by
  refine Classical.byContradiction fun q => ?_
  have h1 := lft_npc h n q
  obtain ⟨v, hv, _⟩ := may_ab h (lft_ltn ab n n) q
  have h0 : npc n (lft ab n n) = 0 := by omega
  apply q
  apply Nat.eq_of_testBit_eq
  intro i
  rw [Nat.zero_testBit]
  cases z : (lft ab n n).testBit i with
  | false => rfl
  | true =>
    have := sm_ge (f := fun i => ((lft ab n n).testBit i).toNat) (tb_lt_of (lft_ltn ab n n) z)
    rw [← npc_sm, h0, z] at this
    exact absurd this (by decide)
theorem plc_ok (h : Ord n bl ab) : ∀ m i, n ≤ i + m → i ≤ n → (∀ k, k < i → lft ab n k ≠ 0) → lft ab n (plc ab n m i) = 0 ∧ (∀ k, k < plc ab n m i → lft ab n k ≠ 0) ∧ plc ab n m i ≤ n
  | 0, i, h1, h2, h3 => by
    have e : i = n := by omega
    subst e
    exact ⟨lft_end h, h3, Nat.le_refl _⟩
  | m + 1, i, h1, h2, h3 => by
    unfold plc
    by_cases q : lft ab n i = 0
    · rw [if_pos q]
      exact ⟨q, h3, h2⟩
    · rw [if_neg q]
      have hi : i ≠ n := fun e => q (by rw [e]; exact lft_end h)
      refine plc_ok h m (i + 1) (by omega) (by omega) fun k hk => ?_
      rcases Nat.eq_or_lt_of_le (Nat.le_of_lt_succ hk) with e | e
      · rw [e]; exact q
      · exact h3 k e
theorem plen_ok (h : Ord n bl ab) (hn : n ≤ 14) : lft ab n (plen ab n) = 0 ∧ (∀ k, k < plen ab n → lft ab n k ≠ 0) ∧ plen ab n ≤ n := plc_ok h 14 0 (by omega) (Nat.zero_le _) (fun k hk => absurd hk (Nat.not_lt_zero _))
theorem plen_pos (h : Ord n bl ab) (h1 : 1 ≤ n) (hn : n ≤ 14) : 1 ≤ plen ab n := by
  refine Nat.one_le_iff_ne_zero.mpr fun e => ?_
  have := (plen_ok h hn).1
  rw [e] at this
  have this : 2 ^ n - 1 = 0 := this
  have h2 : 2 ^ 1 ≤ 2 ^ n := Nat.pow_le_pow_right (by decide) h1
  omega
theorem lay_ex (h : Ord n bl ab) (hn : n ≤ 14) {v : Nat} (hv : v < n) : ∃ i, i < plen ab n ∧ lay ab n i v := by
  refine Classical.byContradiction fun q => ?_
  have key : ∀ i, i ≤ plen ab n → (lft ab n i).testBit v = true := by
    intro i
    induction i with
    | zero => intro _; show (2 ^ n - 1).testBit v = true; rw [all_tb]; exact decide_eq_true hv
    | succ i ih => intro hi; exact (lft_next ab n i v).mpr ⟨ih (by omega), fun z => q ⟨i, by omega, z⟩⟩
  have := key (plen ab n) (Nat.le_refl _)
  rw [(plen_ok h hn).1, Nat.zero_testBit] at this
  cases this
/-! the greedy chain -/
theorem lsF_ok (n s : Nat) : ∀ m, m ≤ n → (∀ u, u < n - m → s.testBit u = false) → (∃ u, u < n ∧ s.testBit u = true) → s.testBit (lsF n s m) = true ∧ lsF n s m < n ∧ ∀ u, u < lsF n s m → s.testBit u = false
  | 0, _, h1, ⟨u, hu, h2⟩ => by rw [h1 u (by omega)] at h2; cases h2
  | m + 1, hm, h1, hex => by
    unfold lsF
    by_cases q : s.testBit (n - (m + 1)) = true
    · rw [if_pos q]
      exact ⟨q, by omega, h1⟩
    · rw [if_neg q]
      refine lsF_ok n s m (by omega) (fun u hu => ?_) hex
      rcases Nat.lt_or_ge u (n - (m + 1)) with z | z
      · exact h1 u z
      · rw [show u = n - (m + 1) by omega]; exact Bool.eq_false_iff.mpr q
theorem cth_ok (h : Ord n bl ab) (hn : n ≤ 14) : ∀ i, i < plen ab n → lay ab n (plen ab n - 1 - i) (cth ab n i) ∧ cth ab n i < n ∧ (cal ab n i).testBit (cth ab n i) = true ∧ ∀ x, lay ab n (plen ab n - 1 - i) x → (cal ab n i).testBit x = true → cth ab n i ≤ x := by
  intro i
  have fin : ∀ i, i < plen ab n → (∃ u, lay ab n (plen ab n - 1 - i) u ∧ (cal ab n i).testBit u = true) → lay ab n (plen ab n - 1 - i) (cth ab n i) ∧ cth ab n i < n ∧ (cal ab n i).testBit (cth ab n i) = true ∧ ∀ x, lay ab n (plen ab n - 1 - i) x → (cal ab n i).testBit x = true → cth ab n i ≤ x := by
    intro i _ ⟨u, u1, u2⟩
    have mem : ∀ x, (tpS ab (lft ab n (plen ab n - 1 - i)) n &&& cal ab n i).testBit x = true ↔ lay ab n (plen ab n - 1 - i) x ∧ (cal ab n i).testBit x = true := by
      intro x
      rw [Nat.testBit_and, Bool.and_eq_true, tpS_tb]
      exact ⟨fun z => ⟨z.1.2, z.2⟩, fun z => ⟨⟨tb_lt_of (lft_ltn ab n _) (mayB_iff.mp z.1).1, z.1⟩, z.2⟩⟩
    obtain ⟨a, b, c⟩ := lsF_ok n (tpS ab (lft ab n (plen ab n - 1 - i)) n &&& cal ab n i) n (Nat.le_refl _) (fun u hu => by omega) ⟨u, tb_lt_of (lft_ltn ab n _) (mayB_iff.mp u1).1, (mem u).mpr ⟨u1, u2⟩⟩
    have m := (mem _).mp a
    refine ⟨m.1, b, m.2, fun x x1 x2 => ?_⟩
    refine Nat.le_of_not_lt fun z => ?_
    have := c x z
    rw [(mem x).mpr ⟨x1, x2⟩] at this
    cases this
  induction i with
  | zero =>
    intro hi
    refine fin 0 hi ?_
    obtain ⟨v, hv, q⟩ := may_ab h (lft_ltn ab n (plen ab n - 1)) ((plen_ok h hn).2.1 _ (by omega))
    refine ⟨v, q, ?_⟩
    show (2 ^ n - 1).testBit v = true
    rw [all_tb]
    exact decide_eq_true hv
  | succ i ih =>
    intro hi
    refine fin (i + 1) hi ?_
    obtain ⟨a, b, c, d⟩ := ih (by omega)
    rw [show plen ab n - 1 - i = plen ab n - 1 - (i + 1) + 1 by omega] at a
    obtain ⟨w, w1, w2⟩ := lay_up h a
    exact ⟨w, w2, w1⟩
/-- a chain told from below -/
def asc (ab : Nat → Nat) (n : Nat) (e : Nat → Nat) (k : Nat) : Prop := (∀ i, i < k → e i < n) ∧ ∀ i j, i < j → j < k → (ab (e i)).testBit (e j) = true
theorem asc_lay (h : Ord n bl ab) (hn : n ≤ 14) {e : Nat → Nat} {k : Nat} (ha : asc ab n e k) : k ≤ plen ab n ∧ (k = plen ab n → ∀ i, i < k → lay ab n (plen ab n - 1 - i) (e i)) := by
  have ex : ∀ i, i < k → ∃ l, l < plen ab n ∧ lay ab n l (e i) := fun i hi => lay_ex h hn (ha.1 i hi)
  have up : ∀ i, i < k → ∀ l, lay ab n l (e i) → l + i + 1 ≤ plen ab n := by
    intro i
    induction i with
    | zero =>
      intro hi l hl
      obtain ⟨l2, h1, h2⟩ := ex 0 hi
      rw [lay_eq hl h2]
      omega
    | succ i ih =>
      intro hi l hl
      obtain ⟨l2, h1, h2⟩ := ex i (by omega)
      have h3 := lay_lt h2 hl (ha.2 i (i + 1) (Nat.lt_succ_self i) hi)
      have h4 := ih (by omega) l2 h2
      omega
  have down : ∀ d i, i + d + 1 = k → ∀ l, lay ab n l (e i) → d ≤ l := by
    intro d
    induction d with
    | zero => intro i _ l _; exact Nat.zero_le _
    | succ d ih =>
      intro i hi l hl
      obtain ⟨l2, h1, h2⟩ := ex (i + 1) (by omega)
      have h3 := lay_lt hl h2 (ha.2 i (i + 1) (Nat.lt_succ_self i) (by omega))
      have h4 := ih (i + 1) (by omega) l2 h2
      omega
  refine ⟨?_, fun hk i hi => ?_⟩
  · cases k with
    | zero => exact Nat.zero_le _
    | succ k =>
      obtain ⟨l, h1, h2⟩ := ex k (Nat.lt_succ_self k)
      have := up k (Nat.lt_succ_self k) l h2
      omega
  · obtain ⟨l, h1, h2⟩ := ex i hi
    have h3 := up i hi l h2
    have h4 := down (k - 1 - i) i (by omega) l h2
    rw [show plen ab n - 1 - i = l by omega]
    exact h2
theorem cth_asc (h : Ord n bl ab) (hn : n ≤ 14) : asc ab n (cth ab n) (plen ab n) := by
  refine ⟨fun i hi => (cth_ok h hn i hi).2.1, fun i j hij hj => ?_⟩
  obtain ⟨d, rfl⟩ : ∃ d, j = i + 1 + d := ⟨j - (i + 1), by omega⟩
  induction d with
  | zero => exact (cth_ok h hn (i + 1) hj).2.2.1
  | succ d ih => exact h.2.2.2 _ _ _ (ih (by omega) (by omega)) (cth_ok h hn (i + 1 + d + 1) hj).2.2.1
/-- the greedy chain is the least of the longest -/
theorem cth_least (h : Ord n bl ab) (hn : n ≤ 14) {e : Nat → Nat} (ha : asc ab n e (plen ab n)) {m : Nat} (hm : m < plen ab n) (hpre : ∀ i, i < m → e i = cth ab n i) (hne : e m ≠ cth ab n m) : cth ab n m < e m := by
  have hl := (asc_lay h hn ha).2 rfl m hm
  have h1 := (cth_ok h hn m hm).2.2.2 (e m) hl (by
    cases m with
    | zero => show (2 ^ n - 1).testBit (e 0) = true; rw [all_tb]; exact decide_eq_true (ha.1 0 hm)
    | succ m =>
      show (ab (cth ab n m)).testBit (e (m + 1)) = true
      rw [← hpre m (Nat.lt_succ_self m)]
      exact ha.2 m (m + 1) (Nat.lt_succ_self m) hm)
  omega
end CHM
