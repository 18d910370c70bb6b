/-! free, covers -/
section FREE
variable {n : Nat} {bl ab : Nat → Nat} {Lf : Nat → Bool} {v : Nat}
theorem ocut_tb (v : Nat) (r : Nat → Nat) (n x y : Nat) (hr : ∀ x, n ≤ x → r x = 0) : (va_up (ocut v r n) v 0 x).testBit y = ((r x).testBit y && (!decide (x = v) && !decide (y = v))) := by
  unfold va_up
  by_cases e : x = v
  · rw [if_pos e, Nat.zero_testBit, decide_eq_true e]
    simp
  · rw [if_neg e, decide_eq_false e]
    unfold ocut
    by_cases h : x < n
    · rw [if_pos h, ndf_tb, tb_pow]
      by_cases e2 : y = v
      · rw [decide_eq_true e2, decide_eq_true e2.symm]; simp
      · rw [decide_eq_false e2, decide_eq_false (fun z => e2 z.symm)]; simp
    · rw [if_neg h, hr x (by omega), Nat.zero_testBit]; rfl
theorem Ord.ab0 (h : Ord n bl ab) (x : Nat) (hx : n ≤ x) : ab x = 0 := by
  apply Nat.eq_of_testBit_eq
  intro y
  rw [Nat.zero_testBit]
  cases hb : (ab x).testBit y with
  | false => rfl
  | true => have := (h.1 x y hb).1; omega
theorem Ord.bl0 (h : Ord n bl ab) (x : Nat) (hx : n ≤ x) : bl x = 0 := by
  apply Nat.eq_of_testBit_eq
  intro y
  rw [Nat.zero_testBit, h.2.1]
  cases hb : (ab y).testBit x with
  | false => rfl
  | true => have := (h.1 y x hb).2; omega
theorem free_tb (h : Ord n bl ab) (x y : Nat) : (va_up (ocut v ab n) v 0 x).testBit y = ((ab x).testBit y && (!decide (x = v) && !decide (y = v))) := ocut_tb v ab n x y h.ab0
theorem free_bl (h : Ord n bl ab) (x y : Nat) : (va_up (ocut v bl n) v 0 y).testBit x = (va_up (ocut v ab n) v 0 x).testBit y := by
  rw [free_tb h, ocut_tb v bl n y x h.bl0, h.2.1]
  cases (ab x).testBit y <;> cases decide (x = v) <;> cases decide (y = v) <;> rfl
theorem free_ord (h : Ord n bl ab) : Ord n (va_up (ocut v bl n) v 0) (va_up (ocut v ab n) v 0) := by
  have low : ∀ x y, (va_up (ocut v ab n) v 0 x).testBit y = true → (ab x).testBit y = true := by
    intro x y hxy
    rw [free_tb h, Bool.and_eq_true] at hxy
    exact hxy.1
  refine ⟨fun x y hxy => h.1 x y (low x y hxy), fun x y => free_bl h x y, fun x => ?_, fun x y z hxy hyz => ?_⟩
  · rw [free_tb h, h.2.2.1 x]; rfl
  · have h1 := h.2.2.2 x y z (low x y hxy) (low y z hyz)
    rw [free_tb h] at hxy hyz ⊢
    simp only [Bool.and_eq_true] at hxy hyz ⊢
    exact ⟨h1, hxy.2.1, hyz.2.2⟩
theorem frB_at (v : Nat) (f : Nat → Bool) (hv : v < 14) : ∀ k, k ≤ 14 → ∀ x y, x < 14 → y < 14 → frB v f k (16 * x + y) = (f (16 * x + y) && !((decide (x < k) && decide (y = v)) || (decide (y < k) && decide (x = v))))
  | 0, _, x, y, _, _ => by
    show f (16 * x + y) = _
    rw [decide_eq_false (Nat.not_lt_zero x), decide_eq_false (Nat.not_lt_zero y)]
    simp
  | k + 1, hk, x, y, hx, hy => by
    have ih := frB_at v f hv k (by omega) x y hx hy
    unfold frB updB
    by_cases e1 : 16 * x + y = 16 * v + k
    · have a : x = v := by omega
      have b : y = k := by omega
      rw [if_pos e1, decide_eq_true a, decide_eq_true (show y < k + 1 by omega)]
      simp
    · rw [if_neg e1]
      by_cases e2 : 16 * x + y = 16 * k + v
      · have a : x = k := by omega
        have b : y = v := by omega
        rw [if_pos e2, decide_eq_true b, decide_eq_true (show x < k + 1 by omega)]
        simp
      · rw [if_neg e2, ih]
        congr 2
        congr 1
        · by_cases hyv : y = v
          · by_cases h1 : x < k
            · rw [decide_eq_true h1, decide_eq_true (show x < k + 1 by omega)]
            · rw [decide_eq_false h1, decide_eq_false (show ¬ x < k + 1 by omega)]
          · rw [decide_eq_false hyv, Bool.and_false, Bool.and_false]
        · by_cases hxv : x = v
          · by_cases h1 : y < k
            · rw [decide_eq_true h1, decide_eq_true (show y < k + 1 by omega)]
            · rw [decide_eq_false h1, decide_eq_false (show ¬ y < k + 1 by omega)]
          · rw [decide_eq_false hxv, Bool.and_false, Bool.and_false]
theorem free_tied (h : Tied n bl ab Lf) (hn : n ≤ 14) (hv : v < n) : Tied n (va_up (ocut v bl n) v 0) (va_up (ocut v ab n) v 0) (frB v Lf n) := by
  refine ⟨free_ord h.1, fun x y hx hy => ?_⟩
  rw [frB_at v Lf (by omega) n hn x y (by omega) (by omega), free_tb h.1, h.2 x y hx hy, decide_eq_true hx, decide_eq_true hy]
  cases (ab x).testBit y <;> cases decide (x = v) <;> cases decide (y = v) <;> rfl
theorem npc_free (h : Ord n bl ab) (hn : n ≤ 14) (x : Nat) (hv : v < n) : npc n (ab x) = npc n (va_up (ocut v ab n) v 0 x) + ((if x = v then npc n (ab v) else 0) + ((ab x).testBit v).toNat) := by
  by_cases e : x = v
  · subst e
    rw [if_pos rfl, h.2.2.1 x]
    have : va_up (ocut x ab n) x 0 x = 0 := if_pos rfl
    rw [this]
    have h0 : npc n 0 = 0 := by rw [npc_sm]; exact sm_0 (fun i _ => by rw [Nat.zero_testBit]; rfl)
    rw [h0]
    simp
  · rw [if_neg e, Nat.zero_add, npc_sm, npc_sm]
    have h1 : sm (fun y => ((ab x).testBit y).toNat) n = sm (fun y => ((va_up (ocut v ab n) v 0 x).testBit y).toNat + (if y = v then ((ab x).testBit v).toNat else 0)) n := by
      refine sm_congr fun y _ => ?_
      rw [free_tb h, decide_eq_false e]
      by_cases e2 : y = v
      · rw [decide_eq_true e2, if_pos e2, e2]; simp
      · rw [decide_eq_false e2, if_neg e2]; simp
    rw [h1, sm_add]
    congr 1
    rw [sm_one (k := v) hv (fun i _ hne => if_neg hne), if_pos rfl]
theorem free_sum (h : Ord n bl ab) (hn : n ≤ 14) (hv : v < n) : osum ab n = osum (va_up (ocut v ab n) v 0) n + (npc 14 (bl v) + npc 14 (ab v)) := by
  have ho := free_ord (v := v) h
  rw [osum_sm, osum_sm]
  have h1 : sm (fun x => npc 14 (ab x)) n = sm (fun x => npc 14 (va_up (ocut v ab n) v 0 x) + ((if x = v then npc n (ab v) else 0) + ((ab x).testBit v).toNat)) n := by
    refine sm_congr fun x _ => ?_
    rw [npc_eq (h.ab_lt x) hn (Nat.le_refl n), npc_eq (ho.ab_lt x) hn (Nat.le_refl n)]
    exact npc_free h hn x hv
  rw [h1, sm_add, sm_add, sm_one (k := v) hv (fun i _ hne => if_neg hne), if_pos rfl, npc_eq (h.ab_lt v) hn (Nat.le_refl n), npc_eq (h.bl_lt v) hn (Nat.le_refl n), npc_sm (bl v)]
  have h2 : sm (fun x => ((ab x).testBit v).toNat) n = sm (fun x => ((bl v).testBit x).toNat) n := sm_congr fun x _ => by rw [h.2.1]
  rw [h2]
  omega
theorem free_ret (h : Tied n bl ab Lf) (hn : n ≤ 14) (hv : v < n) : nI (mPs Lf n n) - nI (mPs (frB v Lf n) n n) = nI (npc 14 (bl v) + npc 14 (ab v)) := by
  rw [(free_tied h hn hv).pairs hn, h.pairs hn, free_sum h.1 hn hv, pk_sub (Nat.le_add_right _ _), Nat.add_sub_cancel_left]
theorem free_small : nI (npc 14 (bl v) + npc 14 (ab v)) = 0 ↔ npc 14 (bl v) + npc 14 (ab v) = 0 := by
  have h1 := npc_le 14 (bl v)
  have h2 := npc_le 14 (ab v)
  exact nb_0 (by omega)
theorem free_same (h : Ord n bl ab) (hn : n ≤ 14) (h0 : npc 14 (bl v) + npc 14 (ab v) = 0) : va_up (ocut v bl n) v 0 = bl ∧ va_up (ocut v ab n) v 0 = ab := by
  have hb := npc_0 (h.bl14 hn v) (by omega)
  have ha := npc_0 (h.ab14 hn v) (by omega)
  have key : ∀ x y, (va_up (ocut v ab n) v 0 x).testBit y = (ab x).testBit y := by
    intro x y
    rw [free_tb h]
    by_cases e : x = v
    · rw [e, ha, Nat.zero_testBit]; rfl
    · by_cases e2 : y = v
      · have : (ab x).testBit y = false := by rw [← h.2.1, e2, hb, Nat.zero_testBit]
        rw [this]; rfl
      · rw [decide_eq_false e, decide_eq_false e2]; simp
  refine ⟨?_, ?_⟩
  · funext y
    apply Nat.eq_of_testBit_eq
    intro x
    rw [free_bl h, key, h.2.1]
  · funext x
    exact Nat.eq_of_testBit_eq (key x)
theorem ocov_tb (ab : Nat → Nat) (v y : Nat) : ∀ k, (ocov ab v k).testBit y = ((ab v).testBit y && allB (fun u => !((ab v).testBit u && (ab u).testBit y)) k)
  | 0 => by
    show (ab v).testBit y = _
    rw [allB, Bool.and_true]
  | k + 1 => by
    have ih := ocov_tb ab v y k
    unfold ocov allB
    split
    · rename_i h
      rw [ndf_tb, ih, h, Bool.true_and, Bool.and_assoc]
    · rename_i h
      rw [ih, Bool.eq_false_iff.mpr h]
      simp
theorem cov_eq (h : Tied n bl ab Lf) (hv : v < n) : setB (qcovers Lf n v) n = ocov ab v n := by
  apply Nat.eq_of_testBit_eq
  intro y
  rw [setB_tb, ocov_tb]
  by_cases hy : y < n
  · rw [decide_eq_true hy, Bool.true_and]
    unfold qcovers
    rw [h.2 v y hv hy]
    congr 1
    exact allB_congr fun u hu => by rw [h.2 v u hv hu, h.2 u y hu hy]
  · rw [decide_eq_false hy, nb_tb_lt (h.1.ab_lt v) (by omega)]
    rfl
end FREE
