/-! ROWS: how many there are -/
def cF (m : Nat → Nat) (n : Nat) : Nat → Nat → Nat
  | 0, _ => 1
  | k + 1, s => if s = 0 then 1 else sm (fun v => if mayB m s v = true then cF m n k (ndf s (2 ^ v)) else 0) n
/-- in how many ways the things of s can be taken off one by one, each free of m's things of what is there -/
def cN (m : Nat → Nat) (n s : Nat) : Nat := cF m n s s
theorem mayB_iff {m : Nat → Nat} {s v : Nat} : mayB m s v = true ↔ s.testBit v = true ∧ ∀ u, (m v).testBit u = true → s.testBit u = false := by
  unfold mayB
  rw [Bool.and_eq_true, decide_eq_true_eq, and_0]
theorem clr_tb (s v i : Nat) : (ndf s (2 ^ v)).testBit i = true ↔ s.testBit i = true ∧ v ≠ i := by
  rw [ndf_tb, tb_pow]
  by_cases e : v = i
  · rw [decide_eq_true e]; simp [e]
  · rw [decide_eq_false e]; simp [e]
theorem clr_lt {s v : Nat} (h : s.testBit v = true) : ndf s (2 ^ v) < s := by
  have h1 := ndf_le s (2 ^ v)
  have h2 := nb_clr_ne h
  omega
theorem cF_fuel (m : Nat → Nat) (n : Nat) : ∀ k s, s ≤ k → cF m n k s = cF m n s s := by
  intro k
  induction k using Nat.strongRecOn with
  | ind k ih =>
    intro s hs
    cases k with
    | zero => rw [show s = 0 by omega]
    | succ k =>
      cases s with
      | zero =>
        show (if (0 : Nat) = 0 then 1 else _) = 1
        rw [if_pos rfl]
      | succ s =>
        show (if s + 1 = 0 then 1 else _) = (if s + 1 = 0 then 1 else _)
        rw [if_neg (by omega), if_neg (by omega)]
        refine sm_congr fun v _ => ?_
        by_cases q : mayB m (s + 1) v = true
        · have hlt := clr_lt (mayB_iff.mp q).1
          rw [if_pos q, if_pos q, ih k (by omega) _ (by omega), ih s (by omega) _ (by omega)]
        · rw [if_neg q, if_neg q]
theorem cN_0 (m : Nat → Nat) (n : Nat) : cN m n 0 = 1 := rfl
theorem cN_rec (m : Nat → Nat) (n : Nat) {s : Nat} (hs : s ≠ 0) : cN m n s = sm (fun v => if mayB m s v = true then cN m n (ndf s (2 ^ v)) else 0) n := by
  cases s with
  | zero => exact absurd rfl hs
  | succ s =>
    show (if s + 1 = 0 then 1 else _) = _
    rw [if_neg (by omega)]
    refine sm_congr fun v _ => ?_
    by_cases q : mayB m (s + 1) v = true
    · have hlt := clr_lt (mayB_iff.mp q).1
      rw [if_pos q, if_pos q, cF_fuel m n s _ (by omega)]
      rfl
    · rw [if_neg q, if_neg q]
theorem npc_clr {s v n : Nat} (hv : v < n) (h : s.testBit v = true) : npc n s = npc n (ndf s (2 ^ v)) + 1 := by
  rw [npc_sm, npc_sm]
  have e : sm (fun i => (s.testBit i).toNat) n = sm (fun i => ((ndf s (2 ^ v)).testBit i).toNat + (if i = v then 1 else 0)) n := by
    refine sm_congr fun i _ => ?_
    rw [ndf_tb, tb_pow]
    by_cases e : i = v
    · rw [if_pos e, decide_eq_true e.symm, e, h]; rfl
    · rw [if_neg e, decide_eq_false (fun z => e z.symm)]; simp
  rw [e, sm_add, sm_one (k := v) hv (fun i _ hne => if_neg hne), if_pos rfl]
def fct : Nat → Nat
  | 0 => 1
  | k + 1 => (k + 1) * fct k
theorem fct_pos : ∀ k, 1 ≤ fct k
  | 0 => Nat.le_refl _
  | k + 1 => Nat.mul_pos (Nat.succ_pos k) (fct_pos k)
theorem fct_mono : ∀ {a b : Nat}, a ≤ b → fct a ≤ fct b
  | a, b, h => by
    induction h with
    | refl => exact Nat.le_refl _
    | step _ ih =>
      refine Nat.le_trans ih ?_
      show _ ≤ (_ + 1) * fct _
      exact Nat.le_mul_of_pos_left _ (Nat.succ_pos _)
theorem cN_le (m : Nat → Nat) (n : Nat) : ∀ s, s < 2 ^ n → cN m n s ≤ fct (npc n s) := by
  intro s
  induction s using Nat.strongRecOn with
  | ind s ih =>
    intro hs
    by_cases e : s = 0
    · rw [e, cN_0]; exact fct_pos _
    · rw [cN_rec m n e]
      have h1 : sm (fun v => if mayB m s v = true then cN m n (ndf s (2 ^ v)) else 0) n ≤ sm (fun v => fct (npc n s - 1) * (s.testBit v).toNat) n := by
        refine sm_le fun v hv => ?_
        by_cases q : mayB m s v = true
        · have hb := (mayB_iff.mp q).1
          have hlt := clr_lt hb
          rw [if_pos q, hb]
          have h2 := ih _ hlt (by omega)
          have h3 := npc_clr hv hb
          rw [show npc n s - 1 = npc n (ndf s (2 ^ v)) by omega]
          simpa using h2
        · rw [if_neg q]; exact Nat.zero_le _
      rw [← sm_mulL, ← npc_sm] at h1
      refine Nat.le_trans h1 ?_
      cases hk : npc n s with
      | zero => simp
      | succ k => rw [Nat.add_sub_cancel, Nat.mul_comm]; exact Nat.le_refl _
theorem fct14 : fct 14 < 2 ^ 62 := by decide
theorem cN_big (m : Nat → Nat) {n s : Nat} (hn : n ≤ 14) (hs : s < 2 ^ n) : cN m n s < 2 ^ 62 :=
  Nat.lt_of_le_of_lt (Nat.le_trans (cN_le m n s hs) (fct_mono (Nat.le_trans (npc_le n s) hn))) fct14
/-- a set that is not empty has a thing with none of m's in it -/
theorem may_ex {m : Nat → Nat} {n s : Nat} (hm : ∀ v, m v < 2 ^ n) (irr : ∀ v, (m v).testBit v = false) (tr : ∀ x y z, (m x).testBit y = true → (m y).testBit z = true → (m x).testBit z = true) (hs : s < 2 ^ n) (h0 : s ≠ 0) : ∃ v, v < n ∧ mayB m s v = true := by
  have key : ∀ d v, s.testBit v = true → npc n (m v &&& s) ≤ d → ∃ v, v < n ∧ mayB m s v = true := by
    intro d
    induction d with
    | zero =>
      intro v hv hd
      refine ⟨v, tb_lt_of hs hv, mayB_iff.mpr ⟨hv, fun u hu => ?_⟩⟩
      cases q : s.testBit u with
      | false => rfl
      | true =>
        have := sm_ge (f := fun i => ((m v &&& s).testBit i).toNat) (tb_lt_of hs q)
        rw [← npc_sm] at this
        have e : (m v &&& s).testBit u = true := by rw [Nat.testBit_and, hu, q]; rfl
        rw [e] at this
        have : 1 ≤ npc n (m v &&& s) := this
        omega
    | succ d ih =>
      intro v hv hd
      by_cases q : ∃ u, (m v).testBit u = true ∧ s.testBit u = true
      · obtain ⟨u, h1, h2⟩ := q
        refine ih u h2 ?_
        have hu := tb_lt_of hs h2
        have h3 : npc n (m u &&& s) + 1 ≤ npc n (m v &&& s) := by
          rw [npc_sm, npc_sm]
          have : sm (fun i => ((m u &&& s).testBit i).toNat + (if i = u then 1 else 0)) n ≤ sm (fun i => ((m v &&& s).testBit i).toNat) n := by
            refine sm_le fun i hi => ?_
            rw [Nat.testBit_and, Nat.testBit_and]
            by_cases e : i = u
            · rw [if_pos e, e, irr u, h1, h2]; decide
            · rw [if_neg e]
              cases a : (m u).testBit i with
              | false => exact Nat.zero_le _
              | true => rw [tr v u i h1 a]; exact Nat.le_refl _
          rw [sm_add, sm_one (k := u) hu (fun i _ hne => if_neg hne), if_pos rfl] at this
          exact this
        omega
      · refine ⟨v, tb_lt_of hs hv, mayB_iff.mpr ⟨hv, fun u hu => ?_⟩⟩
        cases w : s.testBit u with
        | false => rfl
        | true => exact absurd ⟨u, hu, w⟩ q
  have hex : ∃ v, s.testBit v = true := by
    refine Classical.byContradiction fun q => h0 ?_
    apply Nat.eq_of_testBit_eq
    intro i
    rw [Nat.zero_testBit]
    cases w : s.testBit i with
    | false => rfl
    | true => exact absurd ⟨i, w⟩ q
  obtain ⟨v, hv⟩ := hex
  exact key _ v hv (Nat.le_refl _)
section CNT
variable {n : Nat} {bl ab : Nat → Nat} {Lf : Nat → Bool}
theorem may_ab (h : Ord n bl ab) {s : Nat} (hs : s < 2 ^ n) (h0 : s ≠ 0) : ∃ v, v < n ∧ mayB ab s v = true := may_ex h.ab_lt h.2.2.1 h.2.2.2 hs h0
theorem cN_pos (h : Ord n bl ab) : ∀ s, s < 2 ^ n → 1 ≤ cN ab n s := by
  intro s
  induction s using Nat.strongRecOn with
  | ind s ih =>
    intro hs
    by_cases e : s = 0
    · rw [e]; exact Nat.le_refl _
    · obtain ⟨v, hv, q⟩ := may_ab h hs e
      have hlt := clr_lt (mayB_iff.mp q).1
      rw [cN_rec ab n e]
      have h1 := sm_ge (f := fun v => if mayB ab s v = true then cN ab n (ndf s (2 ^ v)) else 0) hv
      simp only [q, if_true] at h1
      exact Nat.le_trans (ih _ hlt (by omega)) h1
/-- from above as from below -/
theorem cN_two (h : Ord n bl ab) : ∀ s, s < 2 ^ n → cN ab n s = cN bl n s := by
  intro s
  induction s using Nat.strongRecOn with
  | ind s ih =>
    intro hs
    by_cases e : s = 0
    · rw [e]; rfl
    · have eq : ∀ v w, (mayB ab s v = true ∧ mayB bl (ndf s (2 ^ v)) w = true) ↔ (mayB bl s w = true ∧ mayB ab (ndf s (2 ^ w)) v = true) := by
        intro v w
        simp only [mayB_iff, clr_tb]
        have c : ∀ x i, (ndf s (2 ^ x)).testBit i = false ↔ ¬ (s.testBit i = true ∧ x ≠ i) := by
          intro x i
          rw [← clr_tb]
          simp
        simp only [c]
        refine ⟨fun ⟨⟨a1, a2⟩, ⟨b1, b2⟩, b3⟩ => ⟨⟨b1, fun u hu => ?_⟩, ⟨⟨a1, fun z => b2 z.symm⟩, fun u hu z => ?_⟩⟩, fun ⟨⟨a1, a2⟩, ⟨b1, b2⟩, b3⟩ => ⟨⟨b1, fun u hu => ?_⟩, ⟨⟨a1, fun z => b2 z.symm⟩, fun u hu z => ?_⟩⟩⟩
        · cases q : s.testBit u with
          | false => rfl
          | true =>
            by_cases q2 : v = u
            · subst q2
              rw [h.2.1] at hu
              have := a2 w hu
              rw [this] at b1; cases b1
            · exact absurd ⟨q, q2⟩ (b3 u hu)
        · have := a2 u hu
          rw [this] at z; cases z.1
        · cases q : s.testBit u with
          | false => rfl
          | true =>
            by_cases q2 : w = u
            · subst q2
              rw [← h.2.1] at hu
              have := a2 v hu
              rw [this] at b1; cases b1
            · exact absurd ⟨q, q2⟩ (b3 u hu)
        · have := a2 u hu
          rw [this] at z; cases z.1
      have comm : ∀ v w, ndf (ndf s (2 ^ v)) (2 ^ w) = ndf (ndf s (2 ^ w)) (2 ^ v) := by
        intro v w
        refine Sub.eq (fun i hi => ?_) (fun i hi => ?_)
        · rw [clr_tb, clr_tb] at hi ⊢; exact ⟨⟨hi.1.1, hi.2⟩, hi.1.2⟩
        · rw [clr_tb, clr_tb] at hi ⊢; exact ⟨⟨hi.1.1, hi.2⟩, hi.1.2⟩
      by_cases one : ∃ v, s = 2 ^ v
      · obtain ⟨v, rfl⟩ := one
        have hv : v < n := tb_lt_of hs (by rw [tb_pow]; exact decide_eq_true rfl)
        have hz : ndf (2 ^ v) (2 ^ v) = 0 := ndf_0.mpr fun _ z => z
        have hone : ∀ m : Nat → Nat, (m v).testBit v = false → cN m n (2 ^ v) = 1 := by
          intro m hm
          rw [cN_rec m n e, sm_one (k := v) hv, if_pos, hz, cN_0]
          · refine mayB_iff.mpr ⟨by rw [tb_pow]; exact decide_eq_true rfl, fun u hu => ?_⟩
            rw [tb_pow]
            refine decide_eq_false fun z => ?_
            rw [← z, hm] at hu
            cases hu
          · intro i _ hne
            refine if_neg fun q => ?_
            have := (mayB_iff.mp q).1
            rw [tb_pow] at this
            exact hne (of_decide_eq_true this).symm
        rw [hone ab (h.2.2.1 v), hone bl (by rw [h.2.1]; exact h.2.2.1 v)]
      · have ne : ∀ v, s.testBit v = true → ndf s (2 ^ v) ≠ 0 := by
          intro v hv z
          refine one ⟨v, Sub.eq (fun i hi => ?_) (fun i hi => ?_)⟩
          · exact ndf_0.mp z i hi
          · rw [tb_pow] at hi
            rw [← of_decide_eq_true hi]
            exact hv
        have e1 : cN ab n s = sm (fun v => sm (fun w => if mayB ab s v = true ∧ mayB bl (ndf s (2 ^ v)) w = true then cN bl n (ndf (ndf s (2 ^ v)) (2 ^ w)) else 0) n) n := by
          rw [cN_rec ab n e]
          refine sm_congr fun v _ => ?_
          by_cases q : mayB ab s v = true
          · have hb := (mayB_iff.mp q).1
            have hlt := clr_lt hb
            rw [if_pos q, ih _ hlt (by omega), cN_rec bl n (ne v hb)]
            refine sm_congr fun w _ => ?_
            by_cases q2 : mayB bl (ndf s (2 ^ v)) w = true
            · rw [if_pos q2, if_pos ⟨q, q2⟩]
            · rw [if_neg q2, if_neg (fun z => q2 z.2)]
          · rw [if_neg q]
            exact (sm_0 fun w _ => if_neg fun z => q z.1).symm
        have e2 : cN bl n s = sm (fun w => sm (fun v => if mayB bl s w = true ∧ mayB ab (ndf s (2 ^ w)) v = true then cN bl n (ndf (ndf s (2 ^ w)) (2 ^ v)) else 0) n) n := by
          rw [cN_rec bl n e]
          refine sm_congr fun w _ => ?_
          by_cases q : mayB bl s w = true
          · have hb := (mayB_iff.mp q).1
            have hlt := clr_lt hb
            rw [if_pos q, ← ih _ hlt (by omega), cN_rec ab n (ne w hb)]
            refine sm_congr fun v _ => ?_
            by_cases q2 : mayB ab (ndf s (2 ^ w)) v = true
            · have hlt2 := clr_lt (mayB_iff.mp q2).1
              rw [if_pos q2, if_pos ⟨q, q2⟩, ih _ (by omega) (by omega)]
            · rw [if_neg q2, if_neg (fun z => q2 z.2)]
          · rw [if_neg q]
            exact (sm_0 fun w _ => if_neg fun z => q z.1).symm
        rw [e1, e2, sm_swap]
        refine sm_congr fun w _ => sm_congr fun v _ => ?_
        by_cases q : mayB ab s v = true ∧ mayB bl (ndf s (2 ^ v)) w = true
        · rw [if_pos q, if_pos ((eq v w).mp q), comm]
        · rw [if_neg q, if_neg (fun z => q ((eq v w).mpr z))]
end CNT
