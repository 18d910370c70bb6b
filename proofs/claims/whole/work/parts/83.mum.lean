/-! MU: a row of sets by number, and any numbers with the same recursion -/
def sI (f : Nat → Int32) : Nat → Int32
  | 0 => 0
  | k + 1 => sI f k + f k
theorem sI_congr {f g : Nat → Int32} : ∀ {n : Nat}, (∀ i, i < n → f i = g i) → sI f n = sI g n
  | 0, _ => rfl
  | n + 1, h => by
    unfold sI
    rw [sI_congr (fun i hi => h i (Nat.lt_succ_of_lt hi)), h n (Nat.lt_succ_self n)]
theorem sI_0 {f : Nat → Int32} : ∀ {n : Nat}, (∀ i, i < n → f i = 0) → sI f n = 0
  | 0, _ => rfl
  | n + 1, h => by
    unfold sI
    rw [sI_0 (fun i hi => h i (Nat.lt_succ_of_lt hi)), h n (Nat.lt_succ_self n), Int32.add_zero]
theorem sI_one {f : Nat → Int32} {k : Nat} : ∀ {n : Nat}, k < n → (∀ i, i < n → i ≠ k → f i = 0) → sI f n = f k
  | 0, h, _ => absurd h (Nat.not_lt_zero _)
  | n + 1, h, h0 => by
    unfold sI
    by_cases e : k = n
    · subst e
      rw [sI_0 (fun i hi => h0 i (Nat.lt_succ_of_lt hi) (Nat.ne_of_lt hi)), Int32.zero_add]
    · rw [sI_one (k := k) (by omega) (fun i hi hne => h0 i (Nat.lt_succ_of_lt hi) hne), h0 n (Nat.lt_succ_self n) (fun q => e q.symm), Int32.add_zero]
theorem sI_cut {f : Nat → Int32} {k : Nat} : ∀ d, (∀ i, k ≤ i → i < k + d → f i = 0) → sI f (k + d) = sI f k
  | 0, _ => rfl
  | d + 1, h => by
    show sI f (k + d) + f (k + d) = _
    rw [sI_cut d (fun i h1 h2 => h i h1 (by omega)), h (k + d) (by omega) (by omega), Int32.add_zero]
theorem sI_ins (f : Nat → Int32) (x : Int32) (p : Nat) : ∀ d, sI (fun j => if j < p then f j else if j = p then x else f (j - 1)) (p + d + 1) = sI f (p + d) + x
  | 0 => by
    show sI _ p + (if p < p then f p else if p = p then x else f (p - 1)) = _
    rw [if_neg (Nat.lt_irrefl p), if_pos rfl]
    congr 1
    exact sI_congr fun i hi => if_pos hi
  | d + 1 => by
    show sI _ (p + d + 1) + (if p + d + 1 < p then f (p + d + 1) else if p + d + 1 = p then x else f (p + d + 1 - 1)) = sI f (p + d) + f (p + d) + x
    rw [sI_ins f x p d, if_neg (by omega), if_neg (by omega), Nat.add_sub_cancel, Int32.add_assoc, Int32.add_assoc, Int32.add_comm x]
theorem muI_sum (φ : Nat → Int32) (S : Nat → Nat) (v L : Nat) : sI (fun j => φ (muI S v L j)) (L + 1) = sI (fun j => φ (S j)) L + φ v := by
  obtain ⟨d, hd⟩ : ∃ d, L = muP S v L + d := ⟨L - muP S v L, by have := muP_le S v L; omega⟩
  have h := sI_ins (fun j => φ (S j)) (φ v) (muP S v L) d
  rw [← hd] at h
  rw [← h]
  refine sI_congr fun j _ => ?_
  unfold muI
  split
  · rfl
  · split <;> rfl
/-- sorted by number -/
def srt (S : Nat → Nat) (L : Nat) : Prop := ∀ i j, i < j → j < L → S i < S j
theorem muP_spec (S : Nat → Nat) (v : Nat) : ∀ k, (∀ j, muP S v k ≤ j → j < k → v < S j) ∧ (0 < muP S v k → ¬ v < S (muP S v k - 1))
  | 0 => ⟨fun j _ h => absurd h (Nat.not_lt_zero _), fun h => absurd h (Nat.lt_irrefl 0)⟩
  | k + 1 => by
    obtain ⟨h1, h2⟩ := muP_spec S v k
    unfold muP
    split
    · rename_i h
      refine ⟨fun j hj hk => ?_, h2⟩
      rcases Nat.eq_or_lt_of_le (Nat.le_of_lt_succ hk) with e | e
      · rw [e]; exact h
      · exact h1 j hj e
    · rename_i h
      exact ⟨fun j hj hk => by omega, fun _ => h⟩
theorem muI_srt {S : Nat → Nat} {v L : Nat} (h : srt S L) (hv : ∀ j, j < L → S j ≠ v) : srt (muI S v L) (L + 1) := by
  obtain ⟨h1, h2⟩ := muP_spec S v L
  have hle := muP_le S v L
  have low : ∀ j, j < muP S v L → S j < v := by
    intro j hj
    have a := h2 (by omega)
    have b := hv j (by omega)
    rcases Nat.eq_or_lt_of_le (show j ≤ muP S v L - 1 by omega) with e | e
    · rw [← e] at a; omega
    · have := h j (muP S v L - 1) e (by omega); omega
  intro i j hij hj
  unfold muI
  by_cases a : j < muP S v L
  · rw [if_pos a, if_pos (by omega)]
    exact h i j hij (by omega)
  · rw [if_neg a]
    by_cases b : j = muP S v L
    · rw [if_pos b, if_pos (by omega)]
      exact low i (by omega)
    · rw [if_neg b]
      have hjv := h1 (j - 1) (by omega) (by omega)
      by_cases c : i < muP S v L
      · rw [if_pos c]
        have := low i c
        omega
      · rw [if_neg c]
        by_cases d : i = muP S v L
        · rw [if_pos d]; exact hjv
        · rw [if_neg d]
          exact h (i - 1) (j - 1) (by omega) (by omega)
theorem muI_mem (S : Nat → Nat) (v L w : Nat) : (∃ j, j < L + 1 ∧ muI S v L j = w) ↔ (w = v ∨ ∃ j, j < L ∧ S j = w) := by
  have hle := muP_le S v L
  refine ⟨fun ⟨j, hj, e⟩ => ?_, fun h => ?_⟩
  · unfold muI at e
    by_cases a : j < muP S v L
    · rw [if_pos a] at e; exact Or.inr ⟨j, by omega, e⟩
    · rw [if_neg a] at e
      by_cases b : j = muP S v L
      · rw [if_pos b] at e; exact Or.inl e.symm
      · rw [if_neg b] at e; exact Or.inr ⟨j - 1, by omega, e⟩
  · rcases h with e | ⟨j, hj, e⟩
    · refine ⟨muP S v L, by omega, ?_⟩
      unfold muI
      rw [if_neg (Nat.lt_irrefl _), if_pos rfl, e]
    · by_cases a : j < muP S v L
      · refine ⟨j, by omega, ?_⟩
        unfold muI
        rw [if_pos a, e]
      · refine ⟨j + 1, by omega, ?_⟩
        unfold muI
        rw [if_neg (by omega), if_neg (by omega), Nat.add_sub_cancel, e]
/-- sets put in one after the other -/
def gS (b : Nat → Bool) (dn : Nat → Nat) : Nat → (Nat → Nat) × Nat
  | 0 => (fun _ => 0, 0)
  | k + 1 => if b k = true then (muI (gS b dn k).1 (dn k) (gS b dn k).2, (gS b dn k).2 + 1) else gS b dn k
theorem gS_mem (b : Nat → Bool) (dn : Nat → Nat) (w : Nat) : ∀ T, (∃ j, j < (gS b dn T).2 ∧ (gS b dn T).1 j = w) ↔ ∃ x, x < T ∧ b x = true ∧ dn x = w
  | 0 => ⟨fun ⟨j, hj, _⟩ => absurd hj (Nat.not_lt_zero _), fun ⟨x, hx, _⟩ => absurd hx (Nat.not_lt_zero _)⟩
  | T + 1 => by
    have ih := gS_mem b dn w T
    unfold gS
    split
    · rename_i h
      rw [muI_mem, ih]
      refine ⟨fun q => ?_, fun ⟨x, hx, h1, h2⟩ => ?_⟩
      · rcases q with e | ⟨x, hx, h1, h2⟩
        · exact ⟨T, Nat.lt_succ_self T, h, e.symm⟩
        · exact ⟨x, Nat.lt_succ_of_lt hx, h1, h2⟩
      · rcases Nat.eq_or_lt_of_le (Nat.le_of_lt_succ hx) with e | e
        · rw [e] at h2; exact Or.inl h2.symm
        · exact Or.inr ⟨x, e, h1, h2⟩
    · rename_i h
      rw [ih]
      refine ⟨fun ⟨x, hx, h1, h2⟩ => ⟨x, Nat.lt_succ_of_lt hx, h1, h2⟩, fun ⟨x, hx, h1, h2⟩ => ?_⟩
      rcases Nat.eq_or_lt_of_le (Nat.le_of_lt_succ hx) with e | e
      · rw [e] at h1; exact absurd h1 h
      · exact ⟨x, e, h1, h2⟩
theorem gS_srt {b : Nat → Bool} {dn : Nat → Nat} : ∀ T, (∀ x y, x < T → y < T → b x = true → b y = true → dn x = dn y → x = y) → srt (gS b dn T).1 (gS b dn T).2
  | 0, _ => fun i j _ hj => absurd hj (Nat.not_lt_zero _)
  | T + 1, hi => by
    have ih := gS_srt (b := b) (dn := dn) T (fun x y hx hy => hi x y (by omega) (by omega))
    unfold gS
    split
    · rename_i h
      refine muI_srt ih (fun j hj e => ?_)
      obtain ⟨x, hx, h1, h2⟩ := (gS_mem b dn (dn T) T).mp ⟨j, hj, e⟩
      have := hi x T (by omega) (by omega) h1 h h2
      omega
    · exact ih
theorem gS_sum (b : Nat → Bool) (dn : Nat → Nat) (φ : Nat → Int32) : ∀ T, sI (fun j => φ ((gS b dn T).1 j)) (gS b dn T).2 = sI (fun x => if b x = true then φ (dn x) else 0) T
  | 0 => rfl
  | T + 1 => by
    have ih := gS_sum b dn φ T
    unfold gS
    show _ = sI _ T + (if b T = true then φ (dn T) else 0)
    split
    · rw [muI_sum, ih]
    · rw [ih, Int32.add_zero]
theorem muSum_sI (S : Nat → Nat) (f : Nat → Int32) (i : Nat) : ∀ k, muSum S f i k = sI (fun j => if ndf (S j) (S i) = 0 then f j else 0) k
  | 0 => rfl
  | k + 1 => by
    unfold muSum sI
    rw [muSum_sI S f i k]
    split
    · rfl
    · rw [Int32.add_zero]
theorem muT_at (S : Nat → Nat) (i : Nat) : ∀ d, muT S (i + 1 + d) i = if i = 0 then 1 else - muSum S (muT S (i + 1 + d)) i i
  | 0 => by
    show va_up (muT S i) i _ i = _
    have e : ∀ x, va_up (muT S i) i x i = x := fun x => if_pos rfl
    rw [e]
    split
    · rfl
    · congr 1
      refine muSum_ext i fun j hj => ?_
      show _ = va_up (muT S i) i _ j
      exact (if_neg (by omega)).symm
  | d + 1 => by
    show va_up (muT S (i + 1 + d)) (i + 1 + d) _ i = _
    have e : ∀ x, va_up (muT S (i + 1 + d)) (i + 1 + d) x i = muT S (i + 1 + d) i := fun x => if_neg (by omega)
    rw [e, muT_at S i d]
    split
    · rfl
    · congr 1
      refine muSum_ext i fun j hj => ?_
      show _ = va_up (muT S (i + 1 + d)) (i + 1 + d) _ j
      exact (if_neg (by omega)).symm
/-- numbers C on the things x < T of b, least a, greatest z, with the recursion, are what the row gives -/
theorem muR_spec {b : Nat → Bool} {dn : Nat → Nat} {T : Nat} {C : Nat → Int32} {a z : Nat} (inj : ∀ x y, x < T → y < T → b x = true → b y = true → dn x = dn y → x = y) (ha : a < T ∧ b a = true) (hz : z < T ∧ b z = true) (hal : ∀ x, x < T → b x = true → Sub (dn a) (dn x)) (hzl : ∀ x, x < T → b x = true → Sub (dn x) (dn z))
    (hC : ∀ x, x < T → b x = true → C x = if x = a then 1 else - sI (fun y => if b y = true ∧ ndf (dn y) (dn x) = 0 ∧ y ≠ x then C y else 0) T) : muR (gS b dn T).1 (gS b dn T).2 = C z := by
  have hs := gS_srt T inj
  have hm := fun w => gS_mem b dn w T
  have hsum := fun φ => gS_sum b dn φ T
  generalize (gS b dn T).1 = S at hs hm hsum ⊢
  generalize (gS b dn T).2 = L at hs hm hsum ⊢
  -- C by sets
  have hCs : ∀ y, y < T → b y = true → sI (fun x => if b x = true ∧ dn x = dn y then C x else 0) T = C y := by
    intro y hy hb
    rw [sI_one (k := y) hy (fun i hi hne => if_neg (fun q => hne (inj i y hi hy q.1 hb q.2))), if_pos ⟨hb, rfl⟩]
  have key : ∀ i, i < L → ∀ x, x < T → b x = true → S i = dn x → muT S L i = C x := by
    intro i
    induction i using Nat.strongRecOn with
    | ind i ih =>
      intro hi x hx hbx hSx
      have h0 : ∀ j, j < L → S j = dn a → j = 0 := by
        intro j hj hja
        rcases Nat.eq_zero_or_pos j with e | e
        · exact e
        · have h1 := hs 0 j e hj
          obtain ⟨y, hy, hby, hye⟩ := (hm (S 0)).mp ⟨0, by omega, rfl⟩
          have h2 := sub_le (hal y hy hby)
          omega
      obtain ⟨d, hd⟩ : ∃ d, L = i + 1 + d := ⟨L - (i + 1), by omega⟩
      have e1 := muT_at S i d
      rw [← hd] at e1
      rw [e1, hC x hx hbx]
      by_cases e0 : i = 0
      · obtain ⟨j, hj, hja⟩ := (hm (dn a)).mpr ⟨a, ha.1, ha.2, rfl⟩
        have hj0 := h0 j hj hja
        rw [hj0, ← e0, hSx] at hja
        rw [if_pos e0, if_pos (inj x a hx ha.1 hbx ha.2 hja)]
      · have hxa : x ≠ a := fun e => e0 (h0 i hi (by rw [hSx, e]))
        rw [if_neg e0, if_neg hxa]
        congr 1
        rw [muSum_sI]
        have e2 := hsum (fun w => if ndf w (dn x) = 0 ∧ w ≠ dn x then sI (fun y => if b y = true ∧ dn y = w then C y else 0) T else 0)
        have e3 : sI (fun j => if ndf (S j) (S i) = 0 then muT S L j else 0) i = sI (fun j => if ndf (S j) (dn x) = 0 ∧ S j ≠ dn x then sI (fun y => if b y = true ∧ dn y = S j then C y else 0) T else 0) i := by
          refine sI_congr fun j hj => ?_
          rw [hSx]
          have hne : S j ≠ dn x := by
            have := hs j i hj hi
            omega
          by_cases q : ndf (S j) (dn x) = 0
          · rw [if_pos q, if_pos ⟨q, hne⟩]
            obtain ⟨y, hy, hby, hye⟩ := (hm (S j)).mp ⟨j, by omega, rfl⟩
            rw [ih j hj (by omega) y hy hby hye.symm, ← hye, hCs y hy hby]
          · rw [if_neg q, if_neg (fun z => q z.1)]
        have e4 : sI (fun j => if ndf (S j) (dn x) = 0 ∧ S j ≠ dn x then sI (fun y => if b y = true ∧ dn y = S j then C y else 0) T else 0) (i + (1 + d)) = sI (fun j => if ndf (S j) (dn x) = 0 ∧ S j ≠ dn x then sI (fun y => if b y = true ∧ dn y = S j then C y else 0) T else 0) i := by
          refine sI_cut (1 + d) fun j h1 h2 => if_neg fun q => ?_
          have h3 := sub_le (ndf_0.mp q.1)
          rcases Nat.eq_or_lt_of_le h1 with e | e
          · rw [← e] at q; exact q.2 hSx
          · have := hs i j e (by omega)
            omega
        rw [e3, ← e4, show i + (1 + d) = L by omega]
        refine e2.trans (sI_congr fun y hy => ?_)
        by_cases q : b y = true
        · rw [if_pos q]
          by_cases q2 : ndf (dn y) (dn x) = 0
          · by_cases q3 : y = x
            · rw [if_neg (fun w => w.2 (by rw [q3])), if_neg (fun w => w.2.2 q3)]
            · rw [if_pos ⟨q2, fun w => q3 (inj y x hy hx q hbx w)⟩, if_pos ⟨q, q2, q3⟩]
              exact hCs y hy q
          · rw [if_neg (fun w => q2 w.1), if_neg (fun w => q2 w.2.1)]
        · rw [if_neg q, if_neg (fun w => q w.1)]
  obtain ⟨j, hj, hjz⟩ := (hm (dn z)).mpr ⟨z, hz.1, hz.2, rfl⟩
  unfold muR
  rw [if_neg (by omega)]
  obtain ⟨y, hy, hby, hye⟩ := (hm (S (L - 1))).mp ⟨L - 1, by omega, rfl⟩
  have h1 := sub_le (hzl y hy hby)
  have e : j = L - 1 := by
    rcases Nat.eq_or_lt_of_le (show j ≤ L - 1 by omega) with e | e
    · exact e
    · have := hs j (L - 1) e (by omega)
      omega
  exact key (L - 1) (by omega) z hz.1 hz.2 (by rw [← e]; exact hjz)
