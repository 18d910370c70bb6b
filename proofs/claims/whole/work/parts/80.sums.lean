/-! SUMS, BITS -/
def sm (f : Nat → Nat) : Nat → Nat
  | 0 => 0
  | k + 1 => sm f k + f k
theorem sm_congr {f g : Nat → Nat} : ∀ {n : Nat}, (∀ i, i < n → f i = g i) → sm f n = sm g n
  | 0, _ => rfl
  | n + 1, h => by
    unfold sm
    rw [sm_congr (fun i hi => h i (Nat.lt_succ_of_lt hi)), h n (Nat.lt_succ_self n)]
theorem sm_le {f g : Nat → Nat} : ∀ {n : Nat}, (∀ i, i < n → f i ≤ g i) → sm f n ≤ sm g n
  | 0, _ => Nat.le_refl _
  | n + 1, h => Nat.add_le_add (sm_le (fun i hi => h i (Nat.lt_succ_of_lt hi))) (h n (Nat.lt_succ_self n))
theorem sm_add (f g : Nat → Nat) : ∀ n, sm (fun i => f i + g i) n = sm f n + sm g n
  | 0 => rfl
  | n + 1 => by
    unfold sm
    rw [sm_add f g n]
    omega
theorem sm_0 {f : Nat → Nat} : ∀ {n : Nat}, (∀ i, i < n → f i = 0) → sm f n = 0
  | 0, _ => rfl
  | n + 1, h => by
    unfold sm
    rw [sm_0 (fun i hi => h i (Nat.lt_succ_of_lt hi)), h n (Nat.lt_succ_self n)]
theorem sm_one {f : Nat → Nat} {k : Nat} : ∀ {n : Nat}, k < n → (∀ i, i < n → i ≠ k → f i = 0) → sm f n = f k
  | 0, h, _ => absurd h (Nat.not_lt_zero _)
  | n + 1, h, h0 => by
    unfold sm
    by_cases e : k = n
    · subst e
      rw [sm_0 (fun i hi => h0 i (Nat.lt_succ_of_lt hi) (Nat.ne_of_lt hi)), Nat.zero_add]
    · rw [sm_one (k := k) (by omega) (fun i hi hne => h0 i (Nat.lt_succ_of_lt hi) hne), h0 n (Nat.lt_succ_self n) (fun q => e q.symm), Nat.add_zero]
theorem sm_ge {f : Nat → Nat} {k : Nat} : ∀ {n : Nat}, k < n → f k ≤ sm f n
  | 0, h => absurd h (Nat.not_lt_zero _)
  | n + 1, h => by
    unfold sm
    by_cases e : k = n
    · subst e; omega
    · have := sm_ge (f := f) (k := k) (n := n) (by omega)
      omega
theorem sm_swap (F : Nat → Nat → Nat) (m : Nat) : ∀ n, sm (fun i => sm (fun j => F i j) m) n = sm (fun j => sm (fun i => F i j) n) m
  | 0 => (sm_0 (fun _ _ => rfl)).symm
  | n + 1 => by
    show sm (fun i => sm (fun j => F i j) m) n + sm (fun j => F n j) m = _
    rw [sm_swap F m n, ← sm_add]
    rfl
theorem sm_mulL (c : Nat) (f : Nat → Nat) : ∀ n, c * sm f n = sm (fun i => c * f i) n
  | 0 => rfl
  | n + 1 => by
    unfold sm
    rw [Nat.mul_add, sm_mulL c f n]
theorem sm_pos {f : Nat → Nat} : ∀ {n : Nat}, 0 < sm f n → ∃ i, i < n ∧ 0 < f i
  | 0, h => absurd h (Nat.lt_irrefl 0)
  | n + 1, h => by
    unfold sm at h
    by_cases h1 : 0 < f n
    · exact ⟨n, Nat.lt_succ_self n, h1⟩
    · obtain ⟨i, hi, h2⟩ := sm_pos (f := f) (n := n) (by omega)
      exact ⟨i, Nat.lt_succ_of_lt hi, h2⟩
theorem npc_sm (s : Nat) : ∀ n, npc n s = sm (fun i => (s.testBit i).toNat) n
  | 0 => rfl
  | n + 1 => by
    unfold npc sm
    rw [npc_sm s n]
theorem npc_up {s n : Nat} (hs : s < 2 ^ n) : ∀ d, npc (n + d) s = npc n s
  | 0 => rfl
  | d + 1 => by
    show npc (n + d) s + (s.testBit (n + d)).toNat = _
    rw [npc_up hs d, nb_tb_lt hs (by omega)]
    rfl
theorem npc_eq {s n m k : Nat} (hs : s < 2 ^ n) (h1 : n ≤ m) (h2 : n ≤ k) : npc m s = npc k s := by
  obtain ⟨a, rfl⟩ : ∃ a, m = n + a := ⟨m - n, by omega⟩
  obtain ⟨b, rfl⟩ : ∃ b, k = n + b := ⟨k - n, by omega⟩
  rw [npc_up hs, npc_up hs]
theorem npc_mono {a b : Nat} {n : Nat} (h : ∀ i, i < n → a.testBit i = true → b.testBit i = true) : npc n a ≤ npc n b := by
  rw [npc_sm, npc_sm]
  refine sm_le fun i hi => ?_
  have := h i hi
  cases ha : a.testBit i with
  | false => exact Nat.zero_le _
  | true => rw [this ha]; exact Nat.le_refl _
theorem all_tb (n i : Nat) : (2 ^ n - 1).testBit i = decide (i < n) := Nat.testBit_two_pow_sub_one n i
theorem sub_le {a b : Nat} (h : ∀ i, a.testBit i = true → b.testBit i = true) : a ≤ b := by
  have e : a = a &&& b := by
    apply Nat.eq_of_testBit_eq
    intro i
    rw [Nat.testBit_and]
    cases ha : a.testBit i with
    | false => rfl
    | true => rw [h i ha]; rfl
  rw [e]
  exact Nat.and_le_right
theorem tb_lt {a n : Nat} (h : ∀ i, a.testBit i = true → i < n) : a < 2 ^ n := by
  have h1 : a ≤ 2 ^ n - 1 := sub_le fun i hi => by rw [all_tb]; exact decide_eq_true (h i hi)
  have := Nat.two_pow_pos n
  omega
theorem tb_lt_of {a n i : Nat} (h : a < 2 ^ n) (hi : a.testBit i = true) : i < n := by
  rcases Nat.lt_or_ge i n with h1 | h1
  · exact h1
  · rw [nb_tb_lt h h1] at hi; cases hi
theorem ndf_0 {a b : Nat} : ndf a b = 0 ↔ ∀ i, a.testBit i = true → b.testBit i = true := by
  refine ⟨fun h i hi => ?_, fun h => ?_⟩
  · have h1 := ndf_tb a b i
    rw [h, Nat.zero_testBit, hi] at h1
    cases hb : b.testBit i with
    | true => rfl
    | false => rw [hb] at h1; cases h1
  · apply Nat.eq_of_testBit_eq
    intro i
    rw [ndf_tb, Nat.zero_testBit]
    cases ha : a.testBit i with
    | false => rfl
    | true => rw [h i ha]; rfl
theorem and_0 {a b : Nat} : a &&& b = 0 ↔ ∀ i, a.testBit i = true → b.testBit i = false := by
  refine ⟨fun h i hi => ?_, fun h => ?_⟩
  · have h1 : (a &&& b).testBit i = false := by rw [h]; exact Nat.zero_testBit i
    rw [Nat.testBit_and, hi, Bool.true_and] at h1
    exact h1
  · apply Nat.eq_of_testBit_eq
    intro i
    rw [Nat.testBit_and, Nat.zero_testBit]
    cases ha : a.testBit i with
    | false => rfl
    | true => rw [h i ha]; rfl
theorem tb_pow (k i : Nat) : (2 ^ k).testBit i = decide (k = i) := Nat.testBit_two_pow
theorem allB_iff {p : Nat → Bool} : ∀ {n : Nat}, allB p n = true ↔ ∀ i, i < n → p i = true
  | 0 => ⟨fun _ i hi => absurd hi (Nat.not_lt_zero _), fun _ => rfl⟩
  | n + 1 => by
    unfold allB
    rw [Bool.and_eq_true, allB_iff]
    refine ⟨fun h i hi => ?_, fun h => ⟨fun i hi => h i (Nat.lt_succ_of_lt hi), h n (Nat.lt_succ_self n)⟩⟩
    rcases Nat.lt_or_ge i n with h1 | h1
    · exact h.1 i h1
    · rw [show i = n by omega]; exact h.2
theorem allB_congr {p q : Nat → Bool} {n : Nat} (h : ∀ i, i < n → p i = q i) : allB p n = allB q n := by
  rw [Bool.eq_iff_iff, allB_iff, allB_iff]
  exact ⟨fun g i hi => by rw [← h i hi]; exact g i hi, fun g i hi => by rw [h i hi]; exact g i hi⟩
theorem setB_tb {q : Nat → Bool} (i : Nat) : ∀ n, (setB q n).testBit i = (decide (i < n) && q i)
  | 0 => by
    show (0 : Nat).testBit i = _
    rw [Nat.zero_testBit, decide_eq_false (Nat.not_lt_zero i)]
    rfl
  | n + 1 => by
    unfold setB
    rw [Nat.testBit_or, setB_tb i n]
    by_cases e : i = n
    · subst e
      rw [decide_eq_false (Nat.lt_irrefl i), decide_eq_true (Nat.lt_succ_self i)]
      cases hq : q i with
      | true => rw [if_pos rfl, tb_pow, decide_eq_true rfl]; rfl
      | false => rw [if_neg (by decide), Nat.zero_testBit]; rfl
    · have e2 : (if q n = true then 2 ^ n else 0).testBit i = false := by
        split
        · rw [tb_pow]; exact decide_eq_false (fun z => e z.symm)
        · exact Nat.zero_testBit i
      rw [e2, Bool.or_false]
      congr 1
      by_cases h : i < n
      · rw [decide_eq_true h, decide_eq_true (by omega)]
      · rw [decide_eq_false h, decide_eq_false (by omega)]
theorem lt_tb {a b m : Nat} (ha : a.testBit m = false) (hb : b.testBit m = true) (h : ∀ i, m < i → a.testBit i = b.testBit i) : a < b := by
  have e1 : a / 2 ^ m / 2 = b / 2 ^ m / 2 := by
    apply Nat.eq_of_testBit_eq
    intro i
    have h2 := h (m + (i + 1)) (by omega)
    rw [Nat.div_div_eq_div_mul, Nat.div_div_eq_div_mul, ← Nat.pow_succ, ← Nat.shiftRight_eq_div_pow, ← Nat.shiftRight_eq_div_pow, Nat.testBit_shiftRight, Nat.testBit_shiftRight, show m + 1 + i = m + (i + 1) by omega]
    exact h2
  rw [Nat.testBit_eq_decide_div_mod_eq] at ha hb
  have ha := of_decide_eq_false ha
  have hb := of_decide_eq_true hb
  have h3 : a / 2 ^ m < b / 2 ^ m := by omega
  exact Nat.lt_of_div_lt_div h3
/-- the highest place at which two numbers differ -/
theorem hi_diff {s w n : Nat} (hs : s < 2 ^ n) (hw : w < 2 ^ n) (h : s < w) : ∃ v, v < n ∧ w.testBit v = true ∧ s.testBit v = false ∧ ∀ i, v < i → s.testBit i = w.testBit i := by
  have key : ∀ m, m ≤ n → (∀ i, m ≤ i → s.testBit i = w.testBit i) → ∃ v, v < m ∧ w.testBit v = true ∧ s.testBit v = false ∧ ∀ i, v < i → s.testBit i = w.testBit i := by
    intro m
    induction m with
    | zero =>
      intro _ he
      exact absurd (Nat.eq_of_testBit_eq (fun i => he i (Nat.zero_le _))) (Nat.ne_of_lt h)
    | succ m ih =>
      intro hm he
      by_cases e : s.testBit m = w.testBit m
      · obtain ⟨v, h1, h2⟩ := ih (by omega) (fun i hi => by
          rcases Nat.eq_or_lt_of_le hi with z | z
          · rw [← z]; exact e
          · exact he i z)
        exact ⟨v, by omega, h2⟩
      · cases hw2 : w.testBit m with
        | true =>
          rw [hw2] at e
          exact ⟨m, Nat.lt_succ_self m, hw2, by cases hh : s.testBit m with
            | false => rfl
            | true => exact absurd hh e, fun i hi => he i hi⟩
        | false =>
          rw [hw2] at e
          have hs2 : s.testBit m = true := by cases hh : s.testBit m with
            | true => rfl
            | false => exact absurd hh e
          exact absurd (lt_tb hw2 hs2 (fun i hi => (he i hi).symm)) (Nat.lt_asymm h)
  obtain ⟨v, h1, h2⟩ := key n (Nat.le_refl _) (fun i hi => by rw [nb_tb_lt hs hi, nb_tb_lt hw hi])
  exact ⟨v, h1, h2⟩
