/-! APART and NEXT: class and model agree -/
section APM
variable {n : Nat} {bl ab : Nat → Nat} {Lf : Nat → Bool}
def wd (ab : Nat → Nat) (n s : Nat) : Nat := npc n s - mst ab n s s
theorem wd_mst (h : Ord n bl ab) (hn : n ≤ 14) {s : Nat} (hs : s < 2 ^ n) : wd ab n s + mst ab n s s = npc n s := by
  obtain ⟨a, _, _, e⟩ := dil_ex h hn hs
  unfold wd
  omega
theorem wd_le (h : Ord n bl ab) (hn : n ≤ 14) {s a : Nat} (hs : s < 2 ^ n) (ha : anti ab a) (hsub : Sub a s) : npc n a ≤ wd ab n s := by
  have h1 := dil_le h hn hs ha hsub
  have h2 := wd_mst h hn hs
  omega
theorem wd_ex (h : Ord n bl ab) (hn : n ≤ 14) {s : Nat} (hs : s < 2 ^ n) : ∃ a, anti ab a ∧ Sub a s ∧ npc n a = wd ab n s := by
  obtain ⟨a, a1, a2, a3⟩ := dil_ex h hn hs
  have h2 := wd_mst h hn hs
  exact ⟨a, a1, a2, by omega⟩
theorem wd_n (h : Ord n bl ab) (hn : n ≤ 14) {s : Nat} (hs : s < 2 ^ n) : wd ab n s ≤ n := by
  have h2 := wd_mst h hn hs
  have h3 := npc_le n s
  omega
theorem wdt_eq (h : Ord n bl ab) (hn : n ≤ 14) {s : Nat} (hs : s < 2 ^ n) : wdt ab n s = nI (wd ab n s) := by
  have h2 := wd_mst h hn hs
  unfold wdt
  rw [npc_eq hs hn (Nat.le_refl n), pk_sub (by omega)]
  rfl
theorem npc_one {a v : Nat} (hv : v < n) (h : a.testBit v = false) : npc n (a ||| 2 ^ v) = npc n a + 1 := npc_set hv h
/-- the least of the greatest antichains of op -/
def lma (ab : Nat → Nat) (n op A : Nat) : Prop := anti ab A ∧ Sub A op ∧ npc n A = wd ab n op ∧ ∀ B, anti ab B → Sub B op → npc n B = wd ab n op → A ≤ B
theorem lt_pow_sub {a b k : Nat} (hs : Sub a b) (hb : b < 2 ^ k) : a < 2 ^ k := Nat.lt_of_le_of_lt (sub_le hs) hb
theorem lt_pow_clr {op k : Nat} (h : op < 2 ^ (k + 1)) : ndf op (2 ^ k) < 2 ^ k := tb_lt fun i hi => by
  rw [clr_tb] at hi
  have := tb_lt_of h hi.1
  omega
theorem anti_sub {a b : Nat} (hs : Sub a b) (hb : anti ab b) : anti ab a := fun x y hx hy => hb x y (hs x hx) (hs y hy)
theorem or_clr {a k : Nat} (h : a.testBit k = true) : ndf a (2 ^ k) ||| 2 ^ k = a := by
  refine Sub.eq (fun i hi => ?_) (fun i hi => ?_)
  · rw [tb_or2, Bool.or_eq_true, decide_eq_true_eq, clr_tb] at hi
    rcases hi with z | z
    · exact z.1
    · rw [← z]; exact h
  · rw [tb_or2, Bool.or_eq_true, decide_eq_true_eq, clr_tb]
    by_cases e : k = i
    · exact Or.inr e
    · exact Or.inl ⟨hi, e⟩
theorem or_pow {a k : Nat} (h : a < 2 ^ k) : a ||| 2 ^ k = a + 2 ^ k := by
  have e : 2 ^ k ||| a = 2 ^ k + a := by
    have := Nat.two_pow_add_eq_or_of_lt h 1
    simpa using this.symm
  rw [Nat.or_comm, e, Nat.add_comm]
theorem chS_ok (h : Ord n bl ab) (hn : n ≤ 14) : ∀ k, k ≤ n → ∀ op ch, op < 2 ^ k → ∃ A, lma ab n op A ∧ chS bl ab n k op (nI (wd ab n op)) ch = ch ||| A
  | 0, _, op, ch, ho => by
    have e : op = 0 := by
      have : (2 : Nat) ^ 0 = 1 := rfl
      omega
    subst e
    have h0 : ∀ i, (0 : Nat).testBit i = true → False := fun i hi => by rw [Nat.zero_testBit] at hi; cases hi
    have z : npc n 0 = 0 := by rw [npc_sm]; exact sm_0 fun i _ => by rw [Nat.zero_testBit]; rfl
    refine ⟨0, ⟨fun x y hx => (h0 x hx).elim, fun _ z => z, ?_, fun _ _ _ _ => Nat.zero_le _⟩, ?_⟩
    · unfold wd; omega
    · show ch = ch ||| 0
      rw [Nat.or_zero]
  | k + 1, hk, op, ch, ho => by
    have hop : op < 2 ^ n := Nat.lt_of_lt_of_le ho (Nat.pow_le_pow_right (by decide) hk)
    unfold chS
    by_cases q : op.testBit k = true
    · rw [if_pos q]
      have hc := lt_pow_clr ho
      have hcn : ndf op (2 ^ k) < 2 ^ n := Nat.lt_of_le_of_lt (ndf_le _ _) hop
      have csub : Sub (ndf op (2 ^ k)) op := fun i hi => ((clr_tb op k i).mp hi).1
      have w1 := wd_n h hn hop
      have w2 := wd_n h hn hcn
      have hw := wdt_eq h hn hcn
      -- an antichain of op without k is one of the rest
      have rest : ∀ B, Sub B op → B.testBit k = false → Sub B (ndf op (2 ^ k)) := fun B hB hk2 i hi => (clr_tb op k i).mpr ⟨hB i hi, fun e => by rw [← e, hk2] at hi; cases hi⟩
      by_cases q2 : wd ab n (ndf op (2 ^ k)) < wd ab n op
      · rw [if_pos (show wdt ab n (ndf op (2 ^ k)) < nI (wd ab n op) by rw [hw]; exact nI_lt q2 (by omega))]
        have must : ∀ B, anti ab B → Sub B op → npc n B = wd ab n op → B.testBit k = true := by
          intro B b1 b2 b3
          cases z : B.testBit k with
          | true => rfl
          | false =>
            have := wd_le h hn hcn b1 (rest B b2 z)
            omega
        generalize hop2 : ndf (ndf op (2 ^ k)) (bl k ||| ab k) = op2
        have tb2 : ∀ i, op2.testBit i = true ↔ op.testBit i = true ∧ k ≠ i ∧ (ab i).testBit k = false ∧ (ab k).testBit i = false := by
          intro i
          rw [← hop2, ndf_tb, Bool.and_eq_true, clr_tb, Bool.not_eq_true', Nat.testBit_or, Bool.or_eq_false_iff, h.2.1, and_assoc]
        have sub2 : Sub op2 op := fun i hi => ((tb2 i).mp hi).1
        have op2k : op2 < 2 ^ k := by rw [← hop2]; exact Nat.lt_of_le_of_lt (ndf_le _ _) hc
        have op2n : op2 < 2 ^ n := lt_pow_sub sub2 hop
        have add : ∀ B, anti ab B → Sub B op2 → anti ab (B ||| 2 ^ k) ∧ Sub (B ||| 2 ^ k) op ∧ npc n (B ||| 2 ^ k) = npc n B + 1 := by
          intro B b1 b2
          have mem : ∀ i, (B ||| 2 ^ k).testBit i = true ↔ B.testBit i = true ∨ k = i := fun i => by rw [tb_or2, Bool.or_eq_true, decide_eq_true_eq]
          have bk : B.testBit k = false := by
            cases z : B.testBit k with
            | false => rfl
            | true => exact absurd rfl ((tb2 k).mp (b2 k z)).2.1
          refine ⟨fun x y hx hy => ?_, fun i hi => ?_, npc_one (by omega) bk⟩
          · rcases (mem x).mp hx with x1 | x1 <;> rcases (mem y).mp hy with y1 | y1
            · exact b1 x y x1 y1
            · rw [← y1]; exact ((tb2 x).mp (b2 x x1)).2.2.1
            · rw [← x1]; exact ((tb2 y).mp (b2 y y1)).2.2.2
            · rw [← x1, ← y1]; exact h.2.2.1 k
          · rcases (mem i).mp hi with z | z
            · exact sub2 i (b2 i z)
            · rw [← z]; exact q
        have rem : ∀ B, anti ab B → Sub B op → B.testBit k = true → anti ab (ndf B (2 ^ k)) ∧ Sub (ndf B (2 ^ k)) op2 ∧ npc n B = npc n (ndf B (2 ^ k)) + 1 := by
          intro B b1 b2 b3
          refine ⟨anti_sub (fun i hi => ((clr_tb B k i).mp hi).1) b1, fun i hi => ?_, npc_clr (by omega) b3⟩
          obtain ⟨i1, i2⟩ := (clr_tb B k i).mp hi
          exact (tb2 i).mpr ⟨b2 i i1, i2, b1 i k i1 b3, b1 k i b3 i1⟩
        have wd2 : wd ab n op2 + 1 = wd ab n op := by
          obtain ⟨B, b1, b2, b3⟩ := wd_ex h hn hop
          obtain ⟨c1, c2, c3⟩ := rem B b1 b2 (must B b1 b2 b3)
          have d1 := wd_le h hn op2n c1 c2
          obtain ⟨D, e1, e2, e3⟩ := wd_ex h hn op2n
          obtain ⟨f1, f2, f3⟩ := add D e1 e2
          have d2 := wd_le h hn hop f1 f2
          omega
        have ewn : nI (wd ab n op) + (-1) = nI (wd ab n op2) := by
          rw [← wd2, ← nI_pred (wd ab n op2), Int32.sub_eq_add_neg]
        rw [ewn]
        obtain ⟨A, ⟨a1, a2, a3, a4⟩, e⟩ := chS_ok h hn k (by omega) op2 (ch ||| 2 ^ k) op2k
        obtain ⟨f1, f2, f3⟩ := add A a1 a2
        refine ⟨A ||| 2 ^ k, ⟨f1, f2, by omega, fun B b1 b2 b3 => ?_⟩, ?_⟩
        · have bk := must B b1 b2 b3
          obtain ⟨c1, c2, c3⟩ := rem B b1 b2 bk
          have := a4 _ c1 c2 (by omega)
          rw [← or_clr bk, or_pow (lt_pow_sub a2 op2k), or_pow (lt_pow_sub c2 op2k)]
          omega
        · rw [e, Nat.or_assoc, Nat.or_comm (2 ^ k) A]
      · rw [if_neg (show ¬ wdt ab n (ndf op (2 ^ k)) < nI (wd ab n op) by rw [hw]; exact fun z => q2 ((nI_ltI (by omega) (by omega)).mp z))]
        have weq : wd ab n (ndf op (2 ^ k)) = wd ab n op := by
          obtain ⟨B, b1, b2, b3⟩ := wd_ex h hn hcn
          have := wd_le h hn hop b1 (fun i hi => csub i (b2 i hi))
          omega
        rw [← weq]
        obtain ⟨A, ⟨a1, a2, a3, a4⟩, e⟩ := chS_ok h hn k (by omega) (ndf op (2 ^ k)) ch hc
        refine ⟨A, ⟨a1, fun i hi => csub i (a2 i hi), by rw [← weq]; exact a3, fun B b1 b2 b3 => ?_⟩, e⟩
        cases z : B.testBit k with
        | false => exact a4 B b1 (rest B b2 z) (by rw [weq]; exact b3)
        | true =>
          have h1 := lt_pow_sub a2 hc
          have h2 : 2 ^ k ≤ B := Nat.ge_two_pow_of_testBit z
          omega
    · rw [if_neg q]
      exact chS_ok h hn k (by omega) op ch (tb_lt fun i hi => by
        have := tb_lt_of ho hi
        rcases Nat.eq_or_lt_of_le (Nat.le_of_lt_succ this) with e | e
        · rw [e] at hi; exact absurd hi q
        · exact e)
theorem capt_ok (h : Ord n bl ab) (hn : n ≤ 14) : lma ab n (2 ^ n - 1) (capt bl ab n) := by
  have hp := Nat.two_pow_pos n
  obtain ⟨A, hA, e⟩ := chS_ok h hn n (Nat.le_refl _) (2 ^ n - 1) 0 (by omega)
  unfold capt
  rw [wdt_eq h hn (by omega), e, Nat.zero_or]
  exact hA
theorem apart_iff (h : Tied n bl ab Lf) {s : Nat} (hs : s < 2 ^ n) : allB (fun a => allB (pisApart Lf s a) n) n = true ↔ anti ab s := by
  rw [allB_iff]
  refine ⟨fun g x y hx hy => ?_, fun g a ha => allB_iff.mpr fun b hb => ?_⟩
  · have hxn := tb_lt_of hs hx
    have hyn := tb_lt_of hs hy
    have := allB_iff.mp (g x hxn) y hyn
    unfold pisApart at this
    rw [hx, hy, h.2 x y hxn hyn] at this
    simpa using this
  · unfold pisApart
    rw [h.2 a b ha hb]
    cases h1 : s.testBit a with
    | false => rfl
    | true =>
      cases h2 : s.testBit b with
      | false => rfl
      | true => rw [g a b h1 h2]; rfl
theorem apF_ok (h : Tied n bl ab Lf) (hn : n ≤ 14) : ∀ k, k < 2 ^ n → anti ab (apF Lf n k) ∧ ∀ a, a ≤ k → anti ab a → npc n a ≤ npc n (apF Lf n k) ∧ (npc n a = npc n (apF Lf n k) → apF Lf n k ≤ a)
  | 0, _ => by
    refine ⟨fun x y hx => ?_, fun a ha _ => ?_⟩
    · have hx : (0 : Nat).testBit x = true := hx
      rw [Nat.zero_testBit] at hx; cases hx
    · have e : a = 0 := by omega
      subst e
      exact ⟨Nat.le_refl _, fun _ => Nat.le_refl _⟩
  | k + 1, hk => by
    obtain ⟨i1, i2⟩ := apF_ok h hn k (by omega)
    have hle := apF_le Lf n k
    have e1 : npc 31 (apF Lf n k) = npc n (apF Lf n k) := npc_eq (n := n) (by omega) (by omega) (Nat.le_refl n)
    have e2 : npc 31 (k + 1) = npc n (k + 1) := npc_eq (n := n) hk (by omega) (Nat.le_refl n)
    have hia := apart_iff h hk
    by_cases q : npc n (apF Lf n k) < npc n (k + 1) ∧ anti ab (k + 1)
    · have e : apF Lf n (k + 1) = k + 1 := by
        unfold apF
        rw [if_pos ⟨by rw [e1, e2]; exact q.1, hia.mpr q.2⟩]
      rw [e]
      refine ⟨q.2, fun a ha hanti => ?_⟩
      rcases Nat.eq_or_lt_of_le ha with z | z
      · rw [z]; exact ⟨Nat.le_refl _, fun _ => Nat.le_refl _⟩
      · have := (i2 a (by omega) hanti).1
        exact ⟨by omega, fun y => by omega⟩
    · have e : apF Lf n (k + 1) = apF Lf n k := by
        show (if _ then k + 1 else apF Lf n k) = _
        rw [if_neg (fun z => q ⟨by rw [← e1, ← e2]; exact z.1, hia.mp z.2⟩)]
      rw [e]
      refine ⟨i1, fun a ha hanti => ?_⟩
      rcases Nat.eq_or_lt_of_le ha with z | z
      · rw [z] at hanti ⊢
        have : ¬ npc n (apF Lf n k) < npc n (k + 1) := fun y => q ⟨y, hanti⟩
        exact ⟨by omega, fun _ => by omega⟩
      · exact i2 a (by omega) hanti
theorem apart_eq (h : Tied n bl ab Lf) (hn : n ≤ 14) : apF Lf n (2 ^ n - 1) = capt bl ab n := by
  have hp := Nat.two_pow_pos n
  have hle := apF_le Lf n (2 ^ n - 1)
  obtain ⟨a1, a2⟩ := apF_ok h hn (2 ^ n - 1) (by omega)
  obtain ⟨c1, c2, c3, c4⟩ := capt_ok h.1 hn
  have hsub : Sub (apF Lf n (2 ^ n - 1)) (2 ^ n - 1) := fun i hi => by
    rw [all_tb]
    exact decide_eq_true (tb_lt_of (show apF Lf n (2 ^ n - 1) < 2 ^ n by omega) hi)
  have h1 := a2 (capt bl ab n) (sub_le c2) c1
  have h2 := wd_le h.1 hn (show 2 ^ n - 1 < 2 ^ n by omega) a1 hsub
  have h3 := c4 _ a1 hsub (by omega)
  have h4 := h1.2 (by omega)
  omega
theorem capt_lt (h : Ord n bl ab) (hn : n ≤ 14) : capt bl ab n < 2 ^ n := by
  have hp := Nat.two_pow_pos n
  have := sub_le (capt_ok h hn).2.1
  omega
theorem npc_alln : npc n (2 ^ n - 1) = n := by
  have : ∀ m, sm (fun _ => 1) m = m := by
    intro m
    induction m with
    | zero => rfl
    | succ m ih => show sm (fun _ => 1) m + 1 = _; rw [ih]
  rw [npc_sm, sm_congr (g := fun _ => 1) (fun i hi => by rw [all_tb, decide_eq_true hi]; rfl), this]
/-! next -/
theorem due_eq (h : Tied n bl ab Lf) (hn : n ≤ 14) : nI n - nI (npc 31 (apF Lf n (2 ^ n - 1))) = nI (mst ab n (2 ^ n - 1) (2 ^ n - 1)) := by
  have hp := Nat.two_pow_pos n
  have hc := capt_lt h.1 hn
  have h1 := (capt_ok h.1 hn).2.2.1
  have h2 := wd_mst h.1 hn (show 2 ^ n - 1 < 2 ^ n by omega)
  rw [npc_alln] at h2
  rw [apart_eq h hn, npc_eq hc (show n ≤ 31 by omega) (Nat.le_refl n), h1, pk_sub (by omega)]
  congr 1
  omega
theorem lgl_eq (h : Tied n bl ab Lf) (hn : n ≤ 14) {v t : Nat} (hv : v < n) (ht : t < 2 ^ n) (due : Int32) : ∀ k, k ≤ n → lgl ab n v (ndf (2 ^ n - 1) t) due k = nxU Lf n v t due k
  | 0, _ => rfl
  | k + 1, hk => by
    have ih := lgl_eq h hn hv ht due k (by omega)
    have hu : n - (k + 1) < n := by omega
    unfold lgl nxU
    rw [ih]
    generalize n - (k + 1) = u at hu ⊢
    have hor : t ||| 2 ^ u < 2 ^ n := nb_lt_or ht (nb_lt_pow hu)
    have e1 : ndf (ndf (2 ^ n - 1) t) (2 ^ u) = ndf (2 ^ n - 1) (t ||| 2 ^ u) := by
      apply Nat.eq_of_testBit_eq
      intro i
      rw [ndf_tb, ndf_tb, ndf_tb, tb_or2, tb_pow]
      cases (2 ^ n - 1).testBit i <;> cases t.testBit i <;> cases decide (u = i) <;> rfl
    have e2 : gtL Lf n (n - (v + 1)) (t ||| 2 ^ u) = mst ab n (nhi (2 ^ n - 1) (v + 1)) (ndf (2 ^ n - 1) (t ||| 2 ^ u)) := by
      rw [gt_eq h hn (by omega) hor, show n - (n - (v + 1)) = v + 1 by omega]
    have e3 : ∀ m, nI m = due - 1 ↔ nI (1 + m) = due := by
      intro m
      rw [Nat.add_comm 1 m, ← nI_1 m]
      refine ⟨fun z => by rw [z, Int32.sub_add_cancel], fun z => by rw [← z, Int32.add_sub_cancel]⟩
    have key : ((ab v &&& ndf (2 ^ n - 1) t).testBit u = true ∧ nI (mst ab n (nhi (2 ^ n - 1) (v + 1)) (ndf (ndf (2 ^ n - 1) t) (2 ^ u))) = due - 1) ↔ nxC Lf n v t due u = true := by
      unfold nxC
      rw [Bool.and_eq_true, Bool.and_eq_true, decide_eq_true_eq, Bool.not_eq_true', e2, e1, e3, h.2 v u hv hu, edge_iff, ndf_tb, all_tb, decide_eq_true hu, Bool.true_and, Bool.not_eq_true', and_assoc]
    by_cases q : nxC Lf n v t due u = true
    · rw [if_pos q, if_pos (key.mpr q)]
    · rw [if_neg q, if_neg (fun z => q (key.mp z))]
theorem lk_eq (h : Tied n bl ab Lf) (hn : n ≤ 14) : ∀ k, k ≤ n → (lkS ab n k).1 = ndf (2 ^ n - 1) (nxX Lf n (nI n - nI (npc 31 (apF Lf n (2 ^ n - 1)))) k).1 ∧ (lkS ab n k).2.1 = (nxX Lf n (nI n - nI (npc 31 (apF Lf n (2 ^ n - 1)))) k).2.1 ∧ ∀ v, v < k → (lkS ab n k).2.2 v = (nxX Lf n (nI n - nI (npc 31 (apF Lf n (2 ^ n - 1)))) (v + 1)).2.2
  | 0, _ => by
    refine ⟨?_, (due_eq h hn).symm, fun v hv => absurd hv (Nat.not_lt_zero _)⟩
    show 2 ^ n - 1 = ndf (2 ^ n - 1) 0
    exact Sub.eq (fun i hi => by rw [ndf_tb, Nat.zero_testBit]; simpa using hi) (fun i hi => by rw [ndf_tb, Nat.zero_testBit] at hi; simpa using hi)
  | k + 1, hk => by
    obtain ⟨i1, i2, i3⟩ := lk_eq h hn k (by omega)
    have hlt := nxX_lt Lf n (nI n - nI (npc 31 (apF Lf n (2 ^ n - 1)))) k
    have hl := lgl_eq h hn (v := k) (by omega) hlt (nxX Lf n (nI n - nI (npc 31 (apF Lf n (2 ^ n - 1)))) k).2.1 n (Nat.le_refl _)
    generalize hD : nI n - nI (npc 31 (apF Lf n (2 ^ n - 1))) = D at i1 i2 i3 hlt hl ⊢
    have ex : nxX Lf n D (k + 1) = nxW Lf n k (nxX Lf n D k) := rfl
    have hl' : lgl ab n k (lkS ab n k).1 (lkS ab n k).2.1 n = nxU Lf n k (nxX Lf n D k).1 (nxX Lf n D k).2.1 n := by rw [i1, i2]; exact hl
    cases hu : nxU Lf n k (nxX Lf n D k).1 (nxX Lf n D k).2.1 n with
    | none =>
      have e1 : nxX Lf n D (k + 1) = ((nxX Lf n D k).1, (nxX Lf n D k).2.1, none) := by
        rw [ex]; unfold nxW; rw [hu]
      have e2 : lkS ab n (k + 1) = ((lkS ab n k).1, (lkS ab n k).2.1, va_up (lkS ab n k).2.2 k none) := by
        have : lkS ab n (k + 1) = (match lgl ab n k (lkS ab n k).1 (lkS ab n k).2.1 n with
          | none => ((lkS ab n k).1, (lkS ab n k).2.1, va_up (lkS ab n k).2.2 k none)
          | some u => (ndf (lkS ab n k).1 (2 ^ u), (lkS ab n k).2.1 + (-1), va_up (lkS ab n k).2.2 k (some u))) := rfl
        rw [this, hl', hu]
      rw [e2]
      refine ⟨by rw [e1]; exact i1, by rw [e1]; exact i2, fun v hv => ?_⟩
      show va_up (lkS ab n k).2.2 k none v = _
      unfold va_up
      by_cases e : v = k
      · rw [if_pos e, e, e1]
      · rw [if_neg e]; exact i3 v (by omega)
    | some u =>
      have e1 : nxX Lf n D (k + 1) = ((nxX Lf n D k).1 ||| 2 ^ u, (nxX Lf n D k).2.1 + (-1), some u) := by
        rw [ex]; unfold nxW; rw [hu]
      have e2 : lkS ab n (k + 1) = (ndf (lkS ab n k).1 (2 ^ u), (lkS ab n k).2.1 + (-1), va_up (lkS ab n k).2.2 k (some u)) := by
        have : lkS ab n (k + 1) = (match lgl ab n k (lkS ab n k).1 (lkS ab n k).2.1 n with
          | none => ((lkS ab n k).1, (lkS ab n k).2.1, va_up (lkS ab n k).2.2 k none)
          | some u => (ndf (lkS ab n k).1 (2 ^ u), (lkS ab n k).2.1 + (-1), va_up (lkS ab n k).2.2 k (some u))) := rfl
        rw [this, hl', hu]
      rw [e2]
      refine ⟨?_, by rw [e1]; show _ + (-1) = _ + (-1); rw [i2], fun v hv => ?_⟩
      · rw [e1]
        show ndf (lkS ab n k).1 (2 ^ u) = ndf (2 ^ n - 1) ((nxX Lf n D k).1 ||| 2 ^ u)
        rw [i1]
        apply Nat.eq_of_testBit_eq
        intro i
        rw [ndf_tb, ndf_tb, ndf_tb, tb_or2, tb_pow]
        cases (2 ^ n - 1).testBit i <;> cases (nxX Lf n D k).1.testBit i <;> cases decide (u = i) <;> rfl
      · show va_up (lkS ab n k).2.2 k (some u) v = _
        unfold va_up
        by_cases e : v = k
        · rw [if_pos e, e, e1]
        · rw [if_neg e]; exact i3 v (by omega)
theorem next_eq (h : Tied n bl ab Lf) (hn : n ≤ 14) {v : Nat} (hv : v < n) : (lkS ab n n).2.2 v = (nxX Lf n (nI n - nI (npc 31 (apF Lf n (2 ^ n - 1)))) (v + 1)).2.2 := (lk_eq h hn n (Nat.le_refl _)).2.2 v hv
end APM
