/-! THE ORDER: class and model hold the same one -/
def Ord (n : Nat) (bl ab : Nat → Nat) : Prop := (∀ i j, (ab i).testBit j = true → i < n ∧ j < n) ∧ (∀ i j, (bl j).testBit i = (ab i).testBit j) ∧ (∀ i, (ab i).testBit i = false) ∧ (∀ i j k, (ab i).testBit j = true → (ab j).testBit k = true → (ab i).testBit k = true)
def Tied (n : Nat) (bl ab : Nat → Nat) (Lf : Nat → Bool) : Prop := Ord n bl ab ∧ ∀ i j, i < n → j < n → Lf (16 * i + j) = (ab i).testBit j
theorem Ord.ab_lt {n : Nat} {bl ab : Nat → Nat} (h : Ord n bl ab) (i : Nat) : ab i < 2 ^ n := tb_lt fun j hj => (h.1 i j hj).2
theorem Ord.bl_lt {n : Nat} {bl ab : Nat → Nat} (h : Ord n bl ab) (i : Nat) : bl i < 2 ^ n := tb_lt fun j hj => (h.1 j i (by rw [← h.2.1]; exact hj)).1
theorem Ord.ab14 {n : Nat} {bl ab : Nat → Nat} (h : Ord n bl ab) (hn : n ≤ 14) (i : Nat) : ab i < 2 ^ 14 := Nat.lt_of_lt_of_le (h.ab_lt i) (Nat.pow_le_pow_right (by decide) hn)
theorem Ord.bl14 {n : Nat} {bl ab : Nat → Nat} (h : Ord n bl ab) (hn : n ≤ 14) (i : Nat) : bl i < 2 ^ 14 := Nat.lt_of_lt_of_le (h.bl_lt i) (Nat.pow_le_pow_right (by decide) hn)
theorem Tied_begin (t : Nat) : Tied t (fun _ => 0) (fun _ => 0) (fun _ => false) := by
  refine ⟨⟨fun i j h => ?_, fun i j => (Nat.zero_testBit i).trans (Nat.zero_testBit j).symm, fun i => Nat.zero_testBit i, fun i j k h => ?_⟩, fun i j _ _ => (Nat.zero_testBit j).symm⟩
  · rw [Nat.zero_testBit] at h; cases h
  · rw [Nat.zero_testBit] at h; cases h
/-! pairs -/
theorem mPr_sm (Lf : Nat → Bool) (x : Nat) : ∀ k, mPr Lf x k = sm (fun y => (Lf (16 * x + y)).toNat) k
  | 0 => rfl
  | k + 1 => by unfold mPr sm; rw [mPr_sm Lf x k]
theorem mPs_sm (Lf : Nat → Bool) (n : Nat) : ∀ k, mPs Lf n k = sm (fun x => mPr Lf x n) k
  | 0 => rfl
  | k + 1 => by unfold mPs sm; rw [mPs_sm Lf n k]
theorem osum_sm (ab : Nat → Nat) : ∀ k, osum ab k = sm (fun x => npc 14 (ab x)) k
  | 0 => rfl
  | k + 1 => by unfold osum sm; rw [osum_sm ab k]
theorem Tied.pairs {n : Nat} {bl ab : Nat → Nat} {Lf : Nat → Bool} (h : Tied n bl ab Lf) (hn : n ≤ 14) : mPs Lf n n = osum ab n := by
  rw [mPs_sm, osum_sm]
  refine sm_congr fun x hx => ?_
  rw [mPr_sm, npc_eq (h.1.ab_lt x) hn (Nat.le_refl n), npc_sm]
  exact sm_congr fun y hy => by rw [h.2 x y hx hy]
/-! closing -/
abbrev cS2 : Type := (Nat → Bool) × Bool
theorem cx_lift {Q : cS2 → cS2 → Prop} (rf : ∀ σ, Q σ σ) (tr : ∀ a b c, Q a b → Q b c → Q a c) {n : Nat} (hk : ∀ x y z σ, x < n → y < n → z < n → Q σ (ckB x y z σ)) (σ : cS2) : (∀ x y, x < n → y < n → ∀ τ k, k ≤ n → Q τ (czB x y τ k)) ∧ (∀ x, x < n → ∀ τ k, k ≤ n → Q τ (cyB n x τ k)) ∧ ∀ k, k ≤ n → Q σ (cxB n σ k) := by
  have hz : ∀ x y, x < n → y < n → ∀ τ k, k ≤ n → Q τ (czB x y τ k) := by
    intro x y hx hy τ k
    induction k with
    | zero => intro _; exact rf _
    | succ k ih => intro hk2; exact tr _ _ _ (ih (by omega)) (hk x y k _ hx hy (by omega))
  have hy : ∀ x, x < n → ∀ τ k, k ≤ n → Q τ (cyB n x τ k) := by
    intro x hx τ k
    induction k with
    | zero => intro _; exact rf _
    | succ k ih => intro hk2; exact tr _ _ _ (ih (by omega)) (hz x k hx (by omega) _ n (Nat.le_refl _))
  refine ⟨hz, hy, ?_⟩
  intro k
  induction k with
  | zero => intro _; exact rf _
  | succ k ih => intro hk2; exact tr _ _ _ (ih (by omega)) (hy k (by omega) _ n (Nat.le_refl _))
def clQ (σ τ : cS2) : Prop := τ.2 = false → τ = σ
theorem clQ_tr (a b c : cS2) (h1 : clQ a b) (h2 : clQ b c) : clQ a c := fun h => by
  have e := h2 h
  rw [e] at h ⊢
  exact h1 h
theorem clQ_k (x y z : Nat) (σ : cS2) : clQ σ (ckB x y z σ) := by
  intro h
  unfold ckB at h ⊢
  split
  · rename_i hc
    rw [if_pos hc] at h
    cases h
  · rfl
/-- a pass that changes nothing has met no gap -/
theorem cx_gap {n : Nat} (σ : cS2) (h : (cxB n σ n).2 = false) : ∀ x y z, x < n → y < n → z < n → σ.1 (16 * x + y) = true → σ.1 (16 * y + z) = true → σ.1 (16 * x + z) = true := by
  have L := cx_lift (Q := clQ) (fun _ _ => rfl) clQ_tr (n := n) (fun x y z σ _ _ _ => clQ_k x y z σ) σ
  have hz : ∀ x y, x < n → y < n → ∀ (τ : cS2) k, k ≤ n → (czB x y τ k).2 = false → ∀ z, z < k → τ.1 (16 * x + y) = true → τ.1 (16 * y + z) = true → τ.1 (16 * x + z) = true := by
    intro x y hx hy τ k
    induction k with
    | zero => intro _ _ z hz; exact absurd hz (Nat.not_lt_zero _)
    | succ k ih =>
      intro hk hf z hz h1 h2
      have e : ckB x y k (czB x y τ k) = czB x y τ k := clQ_k x y k _ hf
      have hf2 : (czB x y τ k).2 = false := by
        have hf : (ckB x y k (czB x y τ k)).2 = false := hf
        rw [e] at hf; exact hf
      have e2 : czB x y τ k = τ := L.1 x y hx hy τ k (by omega) hf2
      rcases Nat.lt_or_ge z k with hzk | hzk
      · exact ih (by omega) hf2 z hzk h1 h2
      · have ez : z = k := by omega
        subst ez
        rw [e2] at e
        cases hc : τ.1 (16 * x + z) with
        | true => rfl
        | false =>
          have hf : (ckB x y z (czB x y τ z)).2 = false := hf
          rw [e2] at hf
          unfold ckB at hf
          rw [if_pos (by rw [h1, h2, hc]; rfl)] at hf
          cases hf
  have hy : ∀ x, x < n → ∀ (τ : cS2) k, k ≤ n → (cyB n x τ k).2 = false → ∀ y z, y < k → z < n → τ.1 (16 * x + y) = true → τ.1 (16 * y + z) = true → τ.1 (16 * x + z) = true := by
    intro x hx τ k
    induction k with
    | zero => intro _ _ y z hy; exact absurd hy (Nat.not_lt_zero _)
    | succ k ih =>
      intro hk hf y z hyk hzn h1 h2
      have hf : (czB x k (cyB n x τ k) n).2 = false := hf
      have e := L.1 x k hx (by omega) (cyB n x τ k) n (Nat.le_refl _) hf
      have hf2 : (cyB n x τ k).2 = false := by rw [← e]; exact hf
      have e2 := L.2.1 x hx τ k (by omega) hf2
      rcases Nat.lt_or_ge y k with hyk2 | hyk2
      · exact ih (by omega) hf2 y z hyk2 hzn h1 h2
      · have ey : y = k := by omega
        subst ey
        rw [e2] at hf
        exact hz x y hx (by omega) τ n (Nat.le_refl _) hf z hzn h1 h2
  have hx : ∀ k, k ≤ n → (cxB n σ k).2 = false → ∀ x y z, x < k → y < n → z < n → σ.1 (16 * x + y) = true → σ.1 (16 * y + z) = true → σ.1 (16 * x + z) = true := by
    intro k
    induction k with
    | zero => intro _ _ x y z hx; exact absurd hx (Nat.not_lt_zero _)
    | succ k ih =>
      intro hk hf x y z hxk hyn hzn h1 h2
      have hf : (cyB n k (cxB n σ k) n).2 = false := hf
      have e := L.2.1 k (by omega) (cxB n σ k) n (Nat.le_refl _) hf
      have hf2 : (cxB n σ k).2 = false := by rw [← e]; exact hf
      have e2 := L.2.2 k (by omega) hf2
      rcases Nat.lt_or_ge x k with hxk2 | hxk2
      · exact ih (by omega) hf2 x y z hxk2 hyn hzn h1 h2
      · have ex : x = k := by omega
        subst ex
        rw [e2] at hf
        exact hy x (by omega) σ n (Nat.le_refl _) hf y z hyn hzn h1 h2
  exact fun x y z hxn hyn hzn => hx n (Nat.le_refl _) h x y z hxn hyn hzn
/-- what closing gives lies between the table and every relation that goes on by itself and holds the table -/
theorem clW_spec {n : Nat} (hn : n ≤ 14) (G : Nat → Nat → Prop) (hG : ∀ x y z, x < n → y < n → z < n → G x y → G y z → G x z) : ∀ d f, 256 - cT f 256 < d → (∀ x y, x < n → y < n → f (16 * x + y) = true → G x y) →
    (∀ k, f k = true → clW n d f k = true) ∧ (∀ x y, x < n → y < n → clW n d f (16 * x + y) = true → G x y) ∧ (∀ x y z, x < n → y < n → z < n → clW n d f (16 * x + y) = true → clW n d f (16 * y + z) = true → clW n d f (16 * x + z) = true) := by
  intro d
  induction d with
  | zero => intro f h _; exact absurd h (Nat.not_lt_zero _)
  | succ d ihd =>
    intro f h hf
    have M := (cx_lift (Q := fun σ τ : cS2 => ∀ k, σ.1 k = true → τ.1 k = true) (fun _ _ h => h) (fun a b c h1 h2 k hk => h2 k (h1 k hk)) (n := n) (fun x y z σ _ _ _ k hk => by
      unfold ckB
      split
      · show updB σ.1 _ true k = true
        unfold updB
        split
        · rfl
        · exact hk
      · exact hk) (f, false)).2.2 n (Nat.le_refl _)
    have S := (cx_lift (Q := fun σ τ : cS2 => (∀ x y, x < n → y < n → σ.1 (16 * x + y) = true → G x y) → ∀ x y, x < n → y < n → τ.1 (16 * x + y) = true → G x y) (fun _ h => h) (fun a b c h1 h2 g => h2 (h1 g)) (n := n) (fun x y z σ hx hy hz g a b ha hb hab => by
      unfold ckB at hab
      split at hab
      · rename_i hc
        rw [Bool.and_eq_true, Bool.and_eq_true] at hc
        have hab : updB σ.1 (16 * x + z) true (16 * a + b) = true := hab
        unfold updB at hab
        split at hab
        · rename_i e
          have e1 : a = x := by omega
          have e2 : b = z := by omega
          rw [e1, e2]
          exact hG x y z hx hy hz (g x y hx hy hc.1) (g y z hy hz hc.2.1)
        · exact g a b ha hb hab
      · exact g a b ha hb hab) (f, false)).2.2 n (Nat.le_refl _) hf
    have B := gB_cx hn (f, false) n hn
    unfold clW
    cases hfl : (cxB n (f, false) n).2 with
    | true =>
      rw [if_pos rfl]
      have hlt : cT f 256 < cT (cxB n (f, false) n).1 256 := (B.2 hfl).elim (fun z => by cases z) id
      have hle := cT_le (cxB n (f, false) n).1 256
      obtain ⟨i1, i2, i3⟩ := ihd (cxB n (f, false) n).1 (by omega) S
      exact ⟨fun k hk => i1 k (M k hk), i2, i3⟩
    | false =>
      rw [if_neg (by decide)]
      have e : cxB n (f, false) n = (f, false) := (cx_lift (Q := clQ) (fun _ _ => rfl) clQ_tr (n := n) (fun x y z σ _ _ _ => clQ_k x y z σ) (f, false)).2.2 n (Nat.le_refl _) hfl
      have g := cx_gap (f, false) hfl
      rw [e]
      exact ⟨fun k hk => hk, hf, g⟩
/-! put -/
theorem tb_or2 (a k i : Nat) : (a ||| 2 ^ k).testBit i = (a.testBit i || decide (k = i)) := by rw [Nat.testBit_or, tb_pow]
theorem orow_tb (at' up : Nat) (r : Nat → Nat) (n x y : Nat) : (orow at' up r n x).testBit y = ((r x).testBit y || (decide (x < n) && (at'.testBit x && up.testBit y))) := by
  unfold orow
  split
  · rename_i h
    rw [Nat.testBit_or, decide_eq_true h.1, h.2]
    rfl
  · rename_i h
    cases h1 : decide (x < n) with
    | false => simp
    | true =>
      cases h2 : at'.testBit x with
      | false => simp
      | true => exact absurd ⟨of_decide_eq_true h1, h2⟩ h
section PUT
variable {n : Nat} {bl ab : Nat → Nat} {Lf : Nat → Bool} {i j : Nat}
theorem put_tb (h : Ord n bl ab) (hi : i < n) (hj : j < n) (x y : Nat) : (orow (bl i ||| 2 ^ i) (ab j ||| 2 ^ j) ab n x).testBit y = true ↔ (ab x).testBit y = true ∨ ((ab x).testBit i = true ∨ i = x) ∧ ((ab j).testBit y = true ∨ j = y) := by
  rw [orow_tb, tb_or2, tb_or2, h.2.1 x i]
  simp only [Bool.or_eq_true, Bool.and_eq_true, decide_eq_true_eq]
  refine ⟨fun q => q.imp id (fun z => z.2), fun q => q.imp id (fun z => ⟨?_, z⟩)⟩
  rcases z.1 with e | e
  · exact (h.1 x i e).1
  · rw [← e]; exact hi
theorem put_bl (h : Ord n bl ab) (hi : i < n) (hj : j < n) (x y : Nat) : (orow (ab j ||| 2 ^ j) (bl i ||| 2 ^ i) bl n y).testBit x = (orow (bl i ||| 2 ^ i) (ab j ||| 2 ^ j) ab n x).testBit y := by
  rw [Bool.eq_iff_iff, put_tb h hi hj, orow_tb, tb_or2, tb_or2, h.2.1 x i, h.2.1 x y]
  simp only [Bool.or_eq_true, Bool.and_eq_true, decide_eq_true_eq]
  refine ⟨fun q => q.imp id (fun z => ⟨z.2.2, z.2.1⟩), fun q => q.imp id (fun z => ⟨?_, z.2, z.1⟩)⟩
  rcases z.2 with e | e
  · exact (h.1 j y e).2
  · rw [← e]; exact hj
theorem put_ord (h : Ord n bl ab) (hi : i < n) (hj : j < n) (hij : i ≠ j) (hno : (ab j).testBit i = false) : Ord n (orow (ab j ||| 2 ^ j) (bl i ||| 2 ^ i) bl n) (orow (bl i ||| 2 ^ i) (ab j ||| 2 ^ j) ab n) := by
  have bad : ((ab j).testBit i = true ∨ i = j) → False := fun q => q.elim (fun z => by rw [hno] at z; cases z) hij
  refine ⟨fun x y hxy => ?_, fun x y => put_bl h hi hj x y, fun x => ?_, fun x y z hxy hyz => ?_⟩
  · rw [put_tb h hi hj] at hxy
    rcases hxy with e | ⟨e1, e2⟩
    · exact h.1 x y e
    · refine ⟨?_, ?_⟩
      · rcases e1 with e | e
        · exact (h.1 x i e).1
        · rw [← e]; exact hi
      · rcases e2 with e | e
        · exact (h.1 j y e).2
        · rw [← e]; exact hj
  · cases hx : (orow (bl i ||| 2 ^ i) (ab j ||| 2 ^ j) ab n x).testBit x with
    | false => rfl
    | true =>
      rw [put_tb h hi hj] at hx
      rcases hx with e | ⟨e1, e2⟩
      · rw [h.2.2.1 x] at e; cases e
      · refine (bad ?_).elim
        rcases e1 with e1 | e1 <;> rcases e2 with e2 | e2
        · exact Or.inl (h.2.2.2 j x i e2 e1)
        · rw [e2]; exact Or.inl e1
        · rw [e1]; exact Or.inl e2
        · exact Or.inr (e1.trans e2.symm)
  · rw [put_tb h hi hj] at hxy hyz ⊢
    rcases hxy with a | ⟨a1, a2⟩ <;> rcases hyz with b | ⟨b1, b2⟩
    · exact Or.inl (h.2.2.2 x y z a b)
    · refine Or.inr ⟨?_, b2⟩
      rcases b1 with b1 | b1
      · exact Or.inl (h.2.2.2 x y i a b1)
      · rw [b1]; exact Or.inl a
    · refine Or.inr ⟨a1, ?_⟩
      rcases a2 with a2 | a2
      · exact Or.inl (h.2.2.2 j y z a2 b)
      · rw [a2]; exact Or.inl b
    · refine (bad ?_).elim
      rcases b1 with b1 | b1 <;> rcases a2 with a2 | a2
      · exact Or.inl (h.2.2.2 j y i a2 b1)
      · rw [a2]; exact Or.inl b1
      · rw [b1]; exact Or.inl a2
      · exact Or.inr (b1.trans a2.symm)
theorem put_tied (h : Tied n bl ab Lf) (hn : n ≤ 14) (hi : i < n) (hj : j < n) (hij : i ≠ j) (hno : (ab j).testBit i = false) : Tied n (orow (ab j ||| 2 ^ j) (bl i ||| 2 ^ i) bl n) (orow (bl i ||| 2 ^ i) (ab j ||| 2 ^ j) ab n) (clW n 257 (updB Lf (16 * i + j) true)) := by
  have ho := put_ord h.1 hi hj hij hno
  refine ⟨ho, ?_⟩
  obtain ⟨c1, c2, c3⟩ := clW_spec hn (fun x y => (orow (bl i ||| 2 ^ i) (ab j ||| 2 ^ j) ab n x).testBit y = true) (fun x y z _ _ _ => ho.2.2.2 x y z) 257 (updB Lf (16 * i + j) true) (by omega) (by
    intro x y hx hy hxy
    show (orow (bl i ||| 2 ^ i) (ab j ||| 2 ^ j) ab n x).testBit y = true
    rw [put_tb h.1 hi hj]
    unfold updB at hxy
    split at hxy
    · rename_i e
      have e1 : x = i := by omega
      have e2 : y = j := by omega
      exact Or.inr ⟨Or.inr e1.symm, Or.inr e2.symm⟩
    · rw [h.2 x y hx hy] at hxy
      exact Or.inl hxy)
  have old : ∀ x y, (ab x).testBit y = true → clW n 257 (updB Lf (16 * i + j) true) (16 * x + y) = true := by
    intro x y hxy
    have hb := h.1.1 x y hxy
    refine c1 _ ?_
    unfold updB
    split
    · rfl
    · rw [h.2 x y hb.1 hb.2]; exact hxy
  have new : clW n 257 (updB Lf (16 * i + j) true) (16 * i + j) = true := c1 _ (if_pos rfl)
  intro x y hx hy
  rw [Bool.eq_iff_iff]
  refine ⟨c2 x y hx hy, fun g => ?_⟩
  rw [put_tb h.1 hi hj] at g
  rcases g with g | ⟨g1, g2⟩
  · exact old x y g
  · have s1 : clW n 257 (updB Lf (16 * i + j) true) (16 * x + j) = true := by
      rcases g1 with g1 | g1
      · exact c3 x i j hx hi hj (old x i g1) new
      · rw [← g1]; exact new
    rcases g2 with g2 | g2
    · exact c3 x j y hx hj hy s1 (old j y g2)
    · rw [← g2]; exact s1
theorem npc_or (a b : Nat) : ∀ k, npc k (a ||| b) = npc k a + npc k (ndf b a)
  | 0 => rfl
  | k + 1 => by
    unfold npc
    rw [npc_or a b k, Nat.testBit_or, ndf_tb]
    cases a.testBit k <;> cases b.testBit k <;> simp <;> omega
theorem put_sum (n : Nat) (lo up : Nat) (ab : Nat → Nat) : ∀ k, k ≤ n → osum (orow lo up ab n) k = osum ab k + ocame lo up ab k
  | 0, _ => rfl
  | k + 1, hk => by
    unfold osum ocame
    rw [put_sum n lo up ab k (by omega)]
    unfold orow
    cases h : lo.testBit k with
    | false => rw [if_neg (fun q => by cases q.2), if_neg (by decide)]; omega
    | true => rw [if_pos ⟨by omega, rfl⟩, if_pos rfl, npc_or]; omega
theorem npc_0 {x : Nat} (hx : x < 2 ^ 14) (h : npc 14 x = 0) : x = 0 := by
  apply Nat.eq_of_testBit_eq
  intro k
  rw [Nat.zero_testBit]
  rcases Nat.lt_or_ge k 14 with hk | hk
  · rw [npc_sm] at h
    have h1 := sm_ge (f := fun i => (x.testBit i).toNat) hk
    rw [h] at h1
    cases hb : x.testBit k with
    | false => rfl
    | true => rw [hb] at h1; exact absurd h1 (by decide)
  · exact nb_tb_lt hx hk
theorem ocame_0 (lo up : Nat) (ab : Nat → Nat) : ∀ k, ocame lo up ab k = 0 → ∀ v, v < k → lo.testBit v = true → npc 14 (ndf up (ab v)) = 0
  | 0, _, v, hv, _ => absurd hv (Nat.not_lt_zero _)
  | k + 1, h, v, hv, hl => by
    unfold ocame at h
    rcases Nat.lt_or_ge v k with h1 | h1
    · exact ocame_0 lo up ab k (by omega) v h1 hl
    · have e : v = k := by omega
      subst e
      rw [if_pos hl] at h
      omega
theorem put_same (h : Ord n bl ab) (hn : n ≤ 14) (hi : i < n) (hj : j < n) (h0 : ocame (bl i ||| 2 ^ i) (ab j ||| 2 ^ j) ab n = 0) : orow (ab j ||| 2 ^ j) (bl i ||| 2 ^ i) bl n = bl ∧ orow (bl i ||| 2 ^ i) (ab j ||| 2 ^ j) ab n = ab := by
  have hlt : ab j ||| 2 ^ j < 2 ^ 14 := nb_lt_or (h.ab14 hn j) (nb_lt_pow (by omega))
  have key : ∀ x y, (orow (bl i ||| 2 ^ i) (ab j ||| 2 ^ j) ab n x).testBit y = (ab x).testBit y := by
    intro x y
    rw [orow_tb]
    cases h1 : decide (x < n) with
    | false => simp
    | true =>
      cases h2 : (bl i ||| 2 ^ i).testBit x with
      | false => simp
      | true =>
        have h3 := ocame_0 _ _ _ n h0 x (of_decide_eq_true h1) h2
        have h4 := npc_0 (Nat.lt_of_le_of_lt (ndf_le _ _) hlt) h3
        rw [ndf_0] at h4
        have h5 := h4 y
        cases h6 : (ab j ||| 2 ^ j).testBit y with
        | false => simp
        | true => rw [h5 h6]; rfl
  refine ⟨?_, ?_⟩
  · funext y
    apply Nat.eq_of_testBit_eq
    intro x
    rw [put_bl h hi hj, key, h.2.1]
  · funext x
    exact Nat.eq_of_testBit_eq (key x)
theorem osum_le (ab : Nat → Nat) : ∀ k, osum ab k ≤ 14 * k
  | 0 => Nat.le_refl _
  | k + 1 => by
    have h1 := osum_le ab k
    have h2 := npc_le 14 (ab k)
    unfold osum
    omega
theorem put_ret (h : Tied n bl ab Lf) (hn : n ≤ 14) (hi : i < n) (hj : j < n) (hij : i ≠ j) (hno : (ab j).testBit i = false) : nI (mPs (clW n 257 (updB Lf (16 * i + j) true)) n n) - nI (mPs Lf n n) = nI (ocame (bl i ||| 2 ^ i) (ab j ||| 2 ^ j) ab n) := by
  rw [(put_tied h hn hi hj hij hno).pairs hn, h.pairs hn, put_sum n _ _ ab n (Nat.le_refl _), pk_sub (Nat.le_add_right _ _), Nat.add_sub_cancel_left]
theorem put_small (h : Ord n bl ab) (hn : n ≤ 14) : nI (ocame (bl i ||| 2 ^ i) (ab j ||| 2 ^ j) ab n) = 0 ↔ ocame (bl i ||| 2 ^ i) (ab j ||| 2 ^ j) ab n = 0 := by
  have h1 := put_sum n (bl i ||| 2 ^ i) (ab j ||| 2 ^ j) ab n (Nat.le_refl _)
  have h2 := osum_le (orow (bl i ||| 2 ^ i) (ab j ||| 2 ^ j) ab n) n
  exact nb_0 (by omega)
end PUT
