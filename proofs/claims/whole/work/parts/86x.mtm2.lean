/-! MATCHING: the most there is; sets that keep apart; the model's table -/
def Mat (ab : Nat → Nat) (n lo up : Nat) (P : Nat → Option Nat) : Prop := EV ab up P ∧ (∀ j, cP n P j ≤ 1) ∧ ∀ u j, P u = some j → lo.testBit j = true
def sz (n : Nat) (P : Nat → Option Nat) : Nat := sm (fun j => cP n P j) n
theorem oB_0 {o : Option Nat} {j : Nat} (h : o ≠ some j) : oB o j = 0 := if_neg h
theorem oB_1 {o : Option Nat} {j : Nat} (h : o = some j) : oB o j = 1 := if_pos h
theorem oB_sum (o : Option Nat) (n : Nat) : sm (fun j => oB o j) n ≤ 1 := by
  cases o with
  | none => rw [sm_0 fun j _ => oB_0 (by simp)]; decide
  | some x =>
    by_cases h : x < n
    · rw [sm_one (k := x) h (fun j _ hne => oB_0 (fun e => hne (Option.some.inj e).symm)), oB_1 rfl]
      decide
    · rw [sm_0 fun j hj => oB_0 (fun e => by have := Option.some.inj e; omega)]
      decide
theorem cP_pos {n : Nat} {P : Nat → Option Nat} {j : Nat} (h : 0 < cP n P j) : ∃ u, u < n ∧ P u = some j := by
  obtain ⟨u, hu, h2⟩ := sm_pos h
  refine ⟨u, hu, Classical.byContradiction fun q => ?_⟩
  have h2 : 0 < oB (P u) j := h2
  rw [oB_0 q] at h2
  omega
theorem cP_ge {n : Nat} {P : Nat → Option Nat} {u j : Nat} (hu : u < n) (h : P u = some j) : 1 ≤ cP n P j := by
  have := sm_ge (f := fun u => oB (P u) j) hu
  have e : oB (P u) j = 1 := oB_1 h
  unfold cP
  omega
section MTM
variable {n : Nat} {bl ab : Nat → Nat} {Lf : Nat → Bool}
theorem edge_iff (up j u : Nat) : (ab j &&& up).testBit u = true ↔ (ab j).testBit u = true ∧ up.testBit u = true := by rw [Nat.testBit_and, Bool.and_eq_true]
theorem edge_lt (h : Ord n bl ab) {up j u : Nat} (he : (ab j &&& up).testBit u = true) : j < n ∧ u < n := h.1 j u ((edge_iff up j u).mp he).1
/-- no matching is greater than a cover -/
theorem weak (h : Ord n bl ab) {lo up CL CU : Nat} {P : Nat → Option Nat} (hP : Mat ab n lo up P) (hc : ∀ j u, lo.testBit j = true → up.testBit u = true → (ab j).testBit u = true → CL.testBit j = true ∨ CU.testBit u = true) : sz n P ≤ npc n CL + npc n CU := by
  have h1 : sz n P ≤ sm (fun j => sm (fun u => (CL.testBit j).toNat * oB (P u) j + (CU.testBit u).toNat * oB (P u) j) n) n := by
    refine sm_le fun j _ => sm_le fun u _ => ?_
    by_cases q : P u = some j
    · have e := (edge_iff up j u).mp (hP.1 u j q)
      rw [oB_1 q]
      rcases hc j u (hP.2.2 u j q) e.2 e.1 with z | z
      · rw [z]; show 1 ≤ 1 * 1 + _; omega
      · rw [z]; show 1 ≤ _ + 1 * 1; omega
    · rw [oB_0 q]; exact Nat.zero_le _
  have h2 : sm (fun j => sm (fun u => (CL.testBit j).toNat * oB (P u) j + (CU.testBit u).toNat * oB (P u) j) n) n = sm (fun j => (CL.testBit j).toNat * cP n P j) n + sm (fun u => (CU.testBit u).toNat * sm (fun j => oB (P u) j) n) n := by
    have e1 : sm (fun j => sm (fun u => (CL.testBit j).toNat * oB (P u) j + (CU.testBit u).toNat * oB (P u) j) n) n = sm (fun j => (CL.testBit j).toNat * cP n P j + sm (fun u => (CU.testBit u).toNat * oB (P u) j) n) n := by
      refine sm_congr fun j _ => ?_
      rw [sm_add]
      congr 1
      unfold cP
      rw [sm_mulL]
    rw [e1, sm_add, sm_swap]
    congr 1
    refine sm_congr fun u _ => ?_
    rw [sm_mulL]
  have h3 : sm (fun j => (CL.testBit j).toNat * cP n P j) n ≤ npc n CL := by
    rw [npc_sm]
    refine sm_le fun j _ => ?_
    have := hP.2.1 j
    cases CL.testBit j with
    | false => simp
    | true => simpa using this
  have h4 : sm (fun u => (CU.testBit u).toNat * sm (fun j => oB (P u) j) n) n ≤ npc n CU := by
    rw [npc_sm]
    refine sm_le fun u _ => ?_
    have := oB_sum (P u) n
    cases CU.testBit u with
    | false => simp
    | true => simpa using this
  omega
/-- the lowers that stand at the uppers of T -/
def prt (n : Nat) (P : Nat → Option Nat) (T : Nat) : Nat := setB (fun j => !allB (fun u => !(T.testBit u && decide (P u = some j))) n) n
theorem prt_tb {P : Nat → Option Nat} {T j : Nat} : (prt n P T).testBit j = true ↔ j < n ∧ ∃ u, u < n ∧ T.testBit u = true ∧ P u = some j := by
  unfold prt
  rw [setB_tb, Bool.and_eq_true, decide_eq_true_eq, Bool.not_eq_true', Bool.eq_false_iff, ne_eq, allB_iff]
  refine and_congr_right fun _ => ⟨fun q => ?_, fun ⟨u, a, b, c⟩ q => ?_⟩
  · refine Classical.byContradiction fun z => q fun u hu => ?_
    cases b : T.testBit u with
    | false => rfl
    | true =>
      have : ¬ P u = some j := fun e => z ⟨u, hu, b, e⟩
      rw [decide_eq_false this]
      rfl
  · have := q u a
    rw [b, decide_eq_true c] at this
    cases this
theorem ms_ok (h : Ord n bl ab) (hn : n ≤ 14) {lo up : Nat} (hlo : lo < 2 ^ n) (hup : up < 2 ^ n) : ∀ k, k ≤ n → EV ab up (msS ab n lo up k).1 ∧ (∀ j, cP n (msS ab n lo up k).1 j ≤ 1) ∧ (∀ u j, (msS ab n lo up k).1 u = some j → lo.testBit j = true ∧ j < k) ∧ sz n (msS ab n lo up k).1 = (msS ab n lo up k).2 ∧ ∃ X Y, Y < 2 ^ n ∧ clsd ab up X Y (msS ab n lo up k).1 ∧ (∀ j, X.testBit j = true → j < k ∧ lo.testBit j = true) ∧ ∀ j, j < k → lo.testBit j = true → cP n (msS ab n lo up k).1 j = 0 → X.testBit j = true
  | 0, _ => by
    have c0 : ∀ j, cP n (fun _ => none) j = 0 := fun j => sm_0 fun u _ => oB_0 (by simp)
    refine ⟨(fun u j e => by cases e), fun j => ?_, (fun u j e => by cases e), ?_, 0, 0, Nat.two_pow_pos n, ⟨(fun j hj => by rw [Nat.zero_testBit] at hj; cases hj), (fun u hu => by rw [Nat.zero_testBit] at hu; cases hu)⟩, (fun j hj => by rw [Nat.zero_testBit] at hj; cases hj), fun j hj => absurd hj (Nat.not_lt_zero _)⟩
    · show cP n (fun _ => none) j ≤ 1
      rw [c0]; decide
    · show sz n (fun _ => none) = 0
      exact sm_0 fun j _ => c0 j
  | k + 1, hk => by
    obtain ⟨i1, i2, i3, i4, X, Y, y1, y2, y3, y4⟩ := ms_ok h hn hlo hup k (by omega)
    unfold msS
    by_cases q : lo.testBit k = true
    · rw [if_pos q]
      have R := pu_good ab n up 15 k (msS ab n lo up k).1 0 (Nat.two_pow_pos n) (by omega)
      generalize (msS ab n lo up k).1 = P at i1 i2 i3 i4 y2 y4 R ⊢
      generalize (msS ab n lo up k).2 = made at i4 ⊢
      generalize pu ab n up 15 k P 0 = r at R ⊢
      have ck : cP n P k = 0 := by
        refine Classical.byContradiction fun z => ?_
        obtain ⟨u, hu, e⟩ := cP_pos (Nat.pos_of_ne_zero z)
        have := (i3 u k e).2
        omega
      have xk : X.testBit k = false := by
        cases z : X.testBit k with
        | false => rfl
        | true => have := (y3 k z).1; omega
      cases hr : r.1 with
      | true =>
        obtain ⟨s1, s2, s3⟩ := R.1 hr
        have hY := (R.2.2 X Y y2).2 xk hr
        rw [if_pos rfl]
        have hE := s3 i1
        have hc1 : ∀ j, cP n r.2.1 j ≤ 1 := by
          intro j
          rw [s2 j]
          by_cases e : k = j
          · rw [if_pos e, ← e, ck]; decide
          · rw [if_neg e]; exact i2 j
        refine ⟨hE, hc1, fun u j e => ?_, ?_, X, Y, y1, ⟨y2.1, fun u hu => ?_⟩, fun j hj => ⟨by have := (y3 j hj).1; omega, (y3 j hj).2⟩, fun j hj hl h0 => ?_⟩
        · have hu := (edge_lt h (hE u j e)).2
          have := cP_ge hu e
          rw [s2 j] at this
          by_cases ek : k = j
          · rw [← ek]; exact ⟨q, Nat.lt_succ_self k⟩
          · rw [if_neg ek, Nat.add_zero] at this
            obtain ⟨u2, _, e2⟩ := cP_pos (show 0 < cP n P j by omega)
            have := i3 u2 j e2
            exact ⟨this.1, by omega⟩
        · show sz n r.2.1 = made + 1
          unfold sz
          rw [sm_congr (fun j _ => s2 j), sm_add]
          show sz n P + _ = _
          rw [i4, sm_one (f := fun j => if k = j then 1 else 0) (k := k) (by omega) (fun j _ hne => if_neg (fun e => hne e.symm)), if_pos rfl]
        · obtain ⟨j, j1, j2⟩ := y2.2 u hu
          exact ⟨j, j1, by rw [hY u hu]; exact j2⟩
        · have h0 : cP n r.2.1 j = 0 := h0
          rw [s2 j] at h0
          by_cases e : k = j
          · rw [if_pos e] at h0; omega
          · exact y4 j (by omega) hl (by omega)
      | false =>
        obtain ⟨f1, f2, f3, f4, f5⟩ := R.2.1 hr
        rw [if_neg (by decide), f1]
        have hm : ∀ j, (X ||| prt n P r.2.2 ||| 2 ^ k).testBit j = true ↔ X.testBit j = true ∨ (prt n P r.2.2).testBit j = true ∨ k = j := by
          intro j
          rw [tb_or2, Nat.testBit_or, Bool.or_eq_true, Bool.or_eq_true, decide_eq_true_eq, or_assoc]
        refine ⟨i1, i2, fun u j e => ⟨(i3 u j e).1, by have := (i3 u j e).2; omega⟩, i4, X ||| prt n P r.2.2 ||| 2 ^ k, Y ||| r.2.2, nb_lt_or y1 f3, ⟨fun j hj u hu => ?_, fun u hu => ?_⟩, fun j hj => ?_, fun j hj hl h0 => ?_⟩
        · have hun := (edge_lt h hu).2
          rw [Nat.testBit_or, Bool.or_eq_true]
          rcases (hm j).mp hj with z | z | z
          · exact Or.inl (y2.1 j z u hu)
          · obtain ⟨_, w, w1, w2, w3⟩ := prt_tb.mp z
            obtain ⟨j2, e1, e2⟩ := f5 w w2 (Nat.zero_testBit w)
            rw [w3] at e1
            cases e1
            exact Or.inr (e2 u hun hu)
          · rw [← z] at hu
            exact Or.inr (f4 u (Nat.zero_le _) hun hu)
        · rw [Nat.testBit_or, Bool.or_eq_true] at hu
          rcases hu with z | z
          · obtain ⟨j, j1, j2⟩ := y2.2 u z
            exact ⟨j, (hm j).mpr (Or.inl j1), j2⟩
          · obtain ⟨j, e1, e2⟩ := f5 u z (Nat.zero_testBit u)
            have hjn := (edge_lt h (i1 u j e1)).1
            exact ⟨j, (hm j).mpr (Or.inr (Or.inl (prt_tb.mpr ⟨hjn, u, tb_lt_of f3 z, z, e1⟩))), e1⟩
        · rcases (hm j).mp hj with z | z | z
          · exact ⟨by have := (y3 j z).1; omega, (y3 j z).2⟩
          · obtain ⟨_, w, w1, w2, w3⟩ := prt_tb.mp z
            have := i3 w j w3
            exact ⟨by omega, this.1⟩
          · rw [← z]; exact ⟨Nat.lt_succ_self k, q⟩
        · rw [hm]
          by_cases e : k = j
          · exact Or.inr (Or.inr e)
          · exact Or.inl (y4 j (by omega) hl h0)
    · rw [if_neg q]
      refine ⟨i1, i2, fun u j e => ⟨(i3 u j e).1, by have := (i3 u j e).2; omega⟩, i4, X, Y, y1, y2, fun j hj => ⟨by have := (y3 j hj).1; omega, (y3 j hj).2⟩, fun j hj hl h0 => ?_⟩
      rcases Nat.eq_or_lt_of_le (Nat.le_of_lt_succ hj) with e | e
      · rw [e] at hl; exact absurd hl q
      · exact y4 j e hl h0
theorem npc_ndf {a b : Nat} (hb : Sub b a) (n : Nat) : npc n a = npc n (ndf a b) + npc n b := by
  rw [npc_sm, npc_sm, npc_sm, ← sm_add]
  refine sm_congr fun i _ => ?_
  rw [ndf_tb]
  have := hb i
  cases h1 : b.testBit i with
  | false => simp
  | true => rw [this h1]; rfl
/-- the most pairs, with a cover of as many -/
theorem mst_max (h : Ord n bl ab) (hn : n ≤ 14) {lo up : Nat} (hlo : lo < 2 ^ n) (hup : up < 2 ^ n) : (∃ P, Mat ab n lo up P ∧ sz n P = mst ab n lo up) ∧ (∀ P, Mat ab n lo up P → sz n P ≤ mst ab n lo up) ∧ ∃ X Y, Y < 2 ^ n ∧ Sub X lo ∧ (∀ j, X.testBit j = true → ∀ u, up.testBit u = true → (ab j).testBit u = true → Y.testBit u = true) ∧ mst ab n lo up = npc n (ndf lo X) + npc n Y := by
  obtain ⟨i1, i2, i3, i4, X, Y, y1, y2, y3, y4⟩ := ms_ok h hn hlo hup n (Nat.le_refl _)
  have hM : Mat ab n lo up (msS ab n lo up n).1 := ⟨i1, i2, fun u j e => (i3 u j e).1⟩
  have i4 : sz n (msS ab n lo up n).1 = mst ab n lo up := i4
  have hsub : Sub X lo := fun j hj => (y3 j hj).2
  have hX : ∀ j, X.testBit j = true → ∀ u, up.testBit u = true → (ab j).testBit u = true → Y.testBit u = true := fun j hj u hu hr => y2.1 j hj u ((edge_iff up j u).mpr ⟨hr, hu⟩)
  have heq : mst ab n lo up = npc n (ndf lo X) + npc n Y := by
    rw [← i4]
    unfold sz
    have e1 : sm (fun j => cP n (msS ab n lo up n).1 j) n = sm (fun j => ((ndf lo X).testBit j).toNat + (X.testBit j).toNat * cP n (msS ab n lo up n).1 j) n := by
      refine sm_congr fun j hj => ?_
      rw [ndf_tb]
      cases hx : X.testBit j with
      | true => rw [Bool.not_true, Bool.and_false]; simp
      | false =>
        rw [Bool.not_false, Bool.and_true]
        cases hl : lo.testBit j with
        | true =>
          have a := i2 j
          have b : cP n (msS ab n lo up n).1 j ≠ 0 := fun z => by
            have := y4 j hj hl z
            rw [hx] at this; cases this
          simp
          omega
        | false =>
          have : cP n (msS ab n lo up n).1 j = 0 := by
            refine Classical.byContradiction fun z => ?_
            obtain ⟨u, _, e⟩ := cP_pos (Nat.pos_of_ne_zero z)
            have := (i3 u j e).1
            rw [hl] at this; cases this
          rw [this]
          rfl
    rw [e1, sm_add, ← npc_sm]
    congr 1
    have e2 : sm (fun j => (X.testBit j).toNat * cP n (msS ab n lo up n).1 j) n = sm (fun j => sm (fun u => (X.testBit j).toNat * oB ((msS ab n lo up n).1 u) j) n) n := by
      refine sm_congr fun j _ => ?_
      unfold cP
      rw [sm_mulL]
    rw [e2, sm_swap, npc_sm]
    refine sm_congr fun u hu => ?_
    cases hy : Y.testBit u with
    | true =>
      obtain ⟨j, j1, j2⟩ := y2.2 u hy
      have hj := (edge_lt h (i1 u j j2)).1
      rw [sm_one (k := j) hj (fun i _ hne => by rw [oB_0 (fun e => hne (by rw [j2] at e; exact (Option.some.inj e).symm)), Nat.mul_zero]), j1, oB_1 j2]
      rfl
    | false =>
      refine sm_0 fun j _ => ?_
      cases hx : X.testBit j with
      | false => simp
      | true =>
        rw [oB_0 fun e => ?_, Nat.mul_zero]
        have := y2.1 j hx u (i1 u j e)
        rw [hy] at this; cases this
  refine ⟨⟨_, hM, i4⟩, fun P hP => ?_, X, Y, y1, hsub, hX, heq⟩
  rw [heq]
  refine weak h hP fun j u hl hu hr => ?_
  cases hx : X.testBit j with
  | true => exact Or.inr (hX j hx u hu hr)
  | false => exact Or.inl (by rw [ndf_tb, hl, hx]; rfl)
/-! sets that keep apart -/
def anti (ab : Nat → Nat) (a : Nat) : Prop := ∀ x y, a.testBit x = true → a.testBit y = true → (ab x).testBit y = false
theorem dil_le (h : Ord n bl ab) (hn : n ≤ 14) {s a : Nat} (hs : s < 2 ^ n) (ha : anti ab a) (hsub : Sub a s) : npc n a + mst ab n s s ≤ npc n s := by
  obtain ⟨⟨P, hP, e⟩, _, _⟩ := mst_max h hn hs hs
  rw [← e]
  -- above some thing of a
  let ov : Nat := setB (fun z => (s.testBit z && !a.testBit z) && !allB (fun x => !(a.testBit x && (ab x).testBit z)) n) n
  let un : Nat := ndf (ndf s a) ov
  have hov : ∀ z, ov.testBit z = true ↔ z < n ∧ s.testBit z = true ∧ a.testBit z = false ∧ ∃ x, a.testBit x = true ∧ (ab x).testBit z = true := by
    intro z
    show (setB _ n).testBit z = true ↔ _
    rw [setB_tb, Bool.and_eq_true, decide_eq_true_eq, Bool.and_eq_true, Bool.and_eq_true, Bool.not_eq_true', Bool.not_eq_true', Bool.eq_false_iff (b := allB _ n), ne_eq, allB_iff]
    refine and_congr_right fun _ => ?_
    rw [and_assoc]
    refine and_congr_right fun _ => and_congr_right fun _ => ⟨fun q => ?_, fun ⟨x, x1, x2⟩ q => ?_⟩
    · refine Classical.byContradiction fun w => q fun x _ => ?_
      cases b : a.testBit x with
      | false => rfl
      | true =>
        cases c : (ab x).testBit z with
        | false => rfl
        | true => exact absurd ⟨x, b, c⟩ w
    · have := q x (h.1 x z x2).1
      rw [x1, x2] at this
      cases this
  have hsz := weak h (CL := un) (CU := ov) hP (fun j u hj hu hr => by
    by_cases aj : a.testBit j = true
    · refine Or.inr ((hov u).mpr ⟨tb_lt_of hs hu, hu, ?_, j, aj, hr⟩)
      cases z : a.testBit u with
      | false => rfl
      | true => have := ha j u aj z; rw [hr] at this; cases this
    · by_cases oj : ov.testBit j = true
      · obtain ⟨_, _, _, x, x1, x2⟩ := (hov j).mp oj
        have hxu := h.2.2.2 x j u x2 hr
        refine Or.inr ((hov u).mpr ⟨tb_lt_of hs hu, hu, ?_, x, x1, hxu⟩)
        cases z : a.testBit u with
        | false => rfl
        | true => have := ha x u x1 z; rw [hxu] at this; cases this
      · refine Or.inl ?_
        show (ndf (ndf s a) ov).testBit j = true
        rw [ndf_tb, ndf_tb, hj, Bool.eq_false_iff.mpr aj, Bool.eq_false_iff.mpr oj]
        rfl)
  have h1 := npc_ndf hsub n
  have h2 := npc_ndf (a := ndf s a) (b := ov) (fun z hz => by
    obtain ⟨_, b, c, _⟩ := (hov z).mp hz
    rw [ndf_tb, b, c]; rfl) n
  show npc n a + sz n P ≤ _
  have h3 : npc n un = npc n (ndf (ndf s a) ov) := rfl
  omega
theorem dil_ex (h : Ord n bl ab) (hn : n ≤ 14) {s : Nat} (hs : s < 2 ^ n) : ∃ a, anti ab a ∧ Sub a s ∧ npc n a + mst ab n s s = npc n s := by
  obtain ⟨_, _, X, Y, hY, hX, hc, e⟩ := mst_max h hn hs hs
  have hsub : Sub (ndf X Y) s := fun i hi => by
    rw [ndf_tb, Bool.and_eq_true] at hi
    exact hX i hi.1
  have hanti : anti ab (ndf X Y) := by
    intro x y hx hy
    rw [ndf_tb, Bool.and_eq_true, Bool.not_eq_true'] at hx hy
    cases q : (ab x).testBit y with
    | false => rfl
    | true =>
      have := hc x hx.1 y (hX y hy.1) q
      rw [this] at hy; cases hy.2
  refine ⟨ndf X Y, hanti, hsub, ?_⟩
  have h1 := dil_le h hn hs hanti hsub
  have h2 := npc_ndf hX n
  have h3 : npc n X ≤ npc n (ndf X Y) + npc n Y := by
    rw [npc_sm, npc_sm, npc_sm, ← sm_add]
    refine sm_le fun i _ => ?_
    rw [ndf_tb]
    cases X.testBit i <;> cases Y.testBit i <;> decide
  omega
/-! the model's table of links -/
theorem gtU_ge (Lf : Nat → Bool) (v t : Nat) (g : Nat → Nat) : ∀ m, g t ≤ gtU Lf v t g m ∧ (∀ u, u < m → Lf (16 * v + u) = true → t.testBit u = false → 1 + g (t ||| 2 ^ u) ≤ gtU Lf v t g m) ∧ (gtU Lf v t g m = g t ∨ ∃ u, u < m ∧ Lf (16 * v + u) = true ∧ t.testBit u = false ∧ gtU Lf v t g m = 1 + g (t ||| 2 ^ u))
  | 0 => ⟨Nat.le_refl _, fun u hu => absurd hu (Nat.not_lt_zero _), Or.inl rfl⟩
  | m + 1 => by
    obtain ⟨a, b, c⟩ := gtU_ge Lf v t g m
    unfold gtU
    generalize hw : (if (Lf (16 * v + m) && !t.testBit m) = true then 1 + g (t ||| 2 ^ m) else 0) = w
    by_cases q : gtU Lf v t g m < w
    · rw [if_pos q]
      refine ⟨by omega, fun u hu h1 h2 => ?_, Or.inr ⟨m, Nat.lt_succ_self m, ?_⟩⟩
      · rcases Nat.eq_or_lt_of_le (Nat.le_of_lt_succ hu) with e | e
        · subst e
          rw [h1, h2, if_pos (by rfl)] at hw
          omega
        · have := b u e h1 h2; omega
      · by_cases z : (Lf (16 * v + m) && !t.testBit m) = true
        · rw [if_pos z] at hw
          rw [Bool.and_eq_true, Bool.not_eq_true'] at z
          exact ⟨z.1, z.2, hw.symm⟩
        · rw [if_neg z] at hw; omega
    · rw [if_neg q]
      refine ⟨a, fun u hu h1 h2 => ?_, c.imp id (fun ⟨u, hu, z⟩ => ⟨u, by omega, z⟩)⟩
      rcases Nat.eq_or_lt_of_le (Nat.le_of_lt_succ hu) with e | e
      · subst e
        rw [h1, h2, if_pos (by rfl)] at hw
        omega
      · exact b u e h1 h2
theorem nhi_all (d : Nat) (j : Nat) : (nhi (2 ^ n - 1) d).testBit j = true ↔ d ≤ j ∧ j < n := by
  rw [nhi_tb, all_tb, Bool.and_eq_true, decide_eq_true_eq, decide_eq_true_eq]
theorem nhi_lt (d : Nat) : nhi (2 ^ n - 1) d < 2 ^ n := tb_lt fun j hj => ((nhi_all d j).mp hj).2
theorem sz_up {P : Nat → Option Nat} {u : Nat} (hu : u < n) (o : Option Nat) : sz n (va_up P u o) + sm (fun j => oB (P u) j) n = sz n P + sm (fun j => oB o j) n := by
  unfold sz
  rw [← sm_add, ← sm_add]
  exact sm_congr fun j _ => cP_up P hu o j
theorem gt_max (h : Tied n bl ab Lf) (hn : n ≤ 14) : ∀ d, d ≤ n → ∀ t, t < 2 ^ n → (∀ P, Mat ab n (nhi (2 ^ n - 1) (n - d)) (ndf (2 ^ n - 1) t) P → sz n P ≤ gtL Lf n d t) ∧ ∃ P, Mat ab n (nhi (2 ^ n - 1) (n - d)) (ndf (2 ^ n - 1) t) P ∧ sz n P = gtL Lf n d t
  | 0, _, t, ht => by
    refine ⟨fun P hP => ?_, fun _ => none, ⟨(fun u j e => by cases e), fun j => ?_, fun u j e => by cases e⟩, ?_⟩
    · show sz n P ≤ 0
      refine Nat.le_of_eq (sm_0 fun j hj => ?_)
      refine Classical.byContradiction fun z => ?_
      obtain ⟨u, _, e⟩ := cP_pos (Nat.pos_of_ne_zero z)
      have := (nhi_all _ j).mp (hP.2.2 u j e)
      omega
    · show cP n (fun _ => none) j ≤ 1
      have : cP n (fun _ => none) j = 0 := sm_0 fun u _ => oB_0 (by simp)
      omega
    · show sz n (fun _ => none) = 0
      exact sm_0 fun j _ => sm_0 fun u _ => oB_0 (by simp)
  | d + 1, hd, t, ht => by
    have IH := gt_max h hn d (by omega)
    have hv : n - (d + 1) < n := by omega
    have hv1 : n - d = n - (d + 1) + 1 := by omega
    obtain ⟨g1, g2, g3⟩ := gtU_ge Lf (n - (d + 1)) t (gtL Lf n d) n
    show (∀ P, _ → sz n P ≤ gtU Lf (n - (d + 1)) t (gtL Lf n d) n) ∧ ∃ P, _ ∧ sz n P = gtU Lf (n - (d + 1)) t (gtL Lf n d) n
    rw [hv1] at IH
    generalize n - (d + 1) = v at hv g1 g2 g3 IH ⊢
    have weaken : ∀ P, Mat ab n (nhi (2 ^ n - 1) (v + 1)) (ndf (2 ^ n - 1) t) P → Mat ab n (nhi (2 ^ n - 1) v) (ndf (2 ^ n - 1) t) P := fun P hP => ⟨hP.1, hP.2.1, fun u j e => by
      have := (nhi_all _ j).mp (hP.2.2 u j e)
      exact (nhi_all v j).mpr ⟨by omega, this.2⟩⟩
    refine ⟨fun P hP => ?_, ?_⟩
    · by_cases q : cP n P v = 0
      · have hP2 : Mat ab n (nhi (2 ^ n - 1) (v + 1)) (ndf (2 ^ n - 1) t) P := ⟨hP.1, hP.2.1, fun u j e => by
          have a := (nhi_all _ j).mp (hP.2.2 u j e)
          have b : j ≠ v := fun z => by
            have := cP_ge (edge_lt h.1 (hP.1 u j e)).2 e
            rw [z] at this; omega
          exact (nhi_all _ j).mpr ⟨by omega, a.2⟩⟩
        exact Nat.le_trans ((IH t ht).1 P hP2) g1
      · obtain ⟨u, hu, e⟩ := cP_pos (Nat.pos_of_ne_zero q)
        have he := (edge_iff _ v u).mp (hP.1 u v e)
        have htu : t.testBit u = false := by
          have := he.2
          rw [ndf_tb, Bool.and_eq_true, Bool.not_eq_true'] at this
          exact this.2
        have hor : t ||| 2 ^ u < 2 ^ n := nb_lt_or ht (nb_lt_pow hu)
        have hc := fun j => cP_up P hu none j
        have hsz := sz_up (P := P) hu none
        rw [e, sm_one (k := v) hv (fun j _ hne => oB_0 (fun z => hne (Option.some.inj z).symm)), oB_1 rfl, sm_0 (f := fun j => oB none j) fun j _ => oB_0 (by simp)] at hsz
        have hin : ∀ w j, va_up P u none w = some j → w ≠ u ∧ P w = some j := by
          intro w j z
          unfold va_up at z
          by_cases ew : w = u
          · rw [if_pos ew] at z; cases z
          · rw [if_neg ew] at z; exact ⟨ew, z⟩
        have hle : ∀ j, cP n (va_up P u none) j + oB (P u) j = cP n P j := fun j => by
          rw [hc j]
          have : oB none j = 0 := oB_0 (by simp)
          omega
        have hP2 : Mat ab n (nhi (2 ^ n - 1) (v + 1)) (ndf (2 ^ n - 1) (t ||| 2 ^ u)) (va_up P u none) := by
          refine ⟨fun w j z => ?_, fun j => ?_, fun w j z => ?_⟩
          · obtain ⟨z1, z2⟩ := hin w j z
            have := (edge_iff _ j w).mp (hP.1 w j z2)
            refine (edge_iff _ j w).mpr ⟨this.1, ?_⟩
            have a := this.2
            rw [ndf_tb, Bool.and_eq_true, Bool.not_eq_true'] at a
            rw [ndf_tb, a.1, tb_or2, a.2, decide_eq_false (fun y => z1 y.symm)]
            rfl
          · have := hle j
            have := hP.2.1 j
            omega
          · obtain ⟨z1, z2⟩ := hin w j z
            have a := (nhi_all _ j).mp (hP.2.2 w j z2)
            have b : j ≠ v := fun y => by
              have c1 := cP_ge (edge_lt h.1 (hP.1 w j z2)).2 z
              have c2 := hle j
              have c3 := hP.2.1 j
              rw [y, oB_1 e] at c2
              rw [y] at c1 c3
              omega
            exact (nhi_all _ j).mpr ⟨by omega, a.2⟩
        have h1 := (IH _ hor).1 _ hP2
        have h2 := g2 u hu (by rw [h.2 v u hv hu]; exact he.1) htu
        omega
    · rcases g3 with g3 | ⟨u, hu, a, b, c⟩
      · obtain ⟨P, hP, e⟩ := (IH t ht).2
        exact ⟨P, weaken P hP, by rw [e, g3]⟩
      · have hor : t ||| 2 ^ u < 2 ^ n := nb_lt_or ht (nb_lt_pow hu)
        obtain ⟨P, hP, e⟩ := (IH _ hor).2
        have hPu : P u = none := by
          cases z : P u with
          | none => rfl
          | some j =>
            have := ((edge_iff _ j u).mp (hP.1 u j z)).2
            rw [ndf_tb, tb_or2, decide_eq_true rfl, Bool.or_true] at this
            simp at this
        have hsz := sz_up (P := P) hu (some v)
        rw [hPu, sm_one (f := fun j => oB (some v) j) (k := v) hv (fun j _ hne => oB_0 (fun z => hne (Option.some.inj z).symm)), oB_1 rfl, sm_0 (f := fun j => oB none j) fun j _ => oB_0 (by simp)] at hsz
        have hle : ∀ j, cP n (va_up P u (some v)) j = cP n P j + oB (some v) j := fun j => by
          have := cP_up P hu (some v) j
          rw [hPu] at this
          have : oB none j = 0 := oB_0 (by simp)
          omega
        have hv0 : cP n P v = 0 := by
          refine Classical.byContradiction fun z => ?_
          obtain ⟨w, _, e2⟩ := cP_pos (Nat.pos_of_ne_zero z)
          have := (nhi_all _ v).mp (hP.2.2 w v e2)
          omega
        refine ⟨va_up P u (some v), ⟨fun w j z => ?_, fun j => ?_, fun w j z => ?_⟩, by omega⟩
        · unfold va_up at z
          by_cases ew : w = u
          · rw [if_pos ew] at z
            cases z
            rw [ew]
            refine (edge_iff _ v u).mpr ⟨by rw [← h.2 v u hv hu]; exact a, ?_⟩
            rw [ndf_tb, all_tb, decide_eq_true hu, b]
            rfl
          · rw [if_neg ew] at z
            have := (edge_iff _ j w).mp (hP.1 w j z)
            refine (edge_iff _ j w).mpr ⟨this.1, ?_⟩
            have y := this.2
            rw [ndf_tb, tb_or2, Bool.and_eq_true, Bool.not_eq_true', Bool.or_eq_false_iff] at y
            rw [ndf_tb, y.1, y.2.1]
            rfl
        · rw [hle j]
          by_cases ev : v = j
          · rw [← ev, hv0, oB_1 rfl]; decide
          · rw [oB_0 (fun z => ev (Option.some.inj z))]; exact hP.2.1 j
        · unfold va_up at z
          by_cases ew : w = u
          · rw [if_pos ew] at z
            cases z
            exact (nhi_all v v).mpr ⟨Nat.le_refl _, hv⟩
          · rw [if_neg ew] at z
            have := (nhi_all _ j).mp (hP.2.2 w j z)
            exact (nhi_all v j).mpr ⟨by omega, this.2⟩
theorem gt_eq (h : Tied n bl ab Lf) (hn : n ≤ 14) {d t : Nat} (hd : d ≤ n) (ht : t < 2 ^ n) : gtL Lf n d t = mst ab n (nhi (2 ^ n - 1) (n - d)) (ndf (2 ^ n - 1) t) := by
  have hp := Nat.two_pow_pos n
  obtain ⟨a, P, hP, e⟩ := gt_max h hn d hd t ht
  obtain ⟨⟨Q, hQ, e2⟩, b, _⟩ := mst_max h.1 hn (nhi_lt (n := n) (n - d)) (up := ndf (2 ^ n - 1) t) (by have := ndf_le (2 ^ n - 1) t; omega)
  have h1 := a Q hQ
  have h2 := b P hP
  omega
end MTM
