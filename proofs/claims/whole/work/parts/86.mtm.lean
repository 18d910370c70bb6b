/-! MATCHING: what pairing up does -/
def oB (o : Option Nat) (j : Nat) : Nat := if o = some j then 1 else 0
/-- how often j stands in P -/
def cP (n : Nat) (P : Nat → Option Nat) (j : Nat) : Nat := sm (fun u => oB (P u) j) n
theorem cP_up {n : Nat} (P : Nat → Option Nat) {u : Nat} (hu : u < n) (o : Option Nat) (j : Nat) : cP n (va_up P u o) j + oB (P u) j = cP n P j + oB o j := by
  unfold cP
  have e : sm (fun i => oB (va_up P u o i) j + (if i = u then oB (P u) j else 0)) n = sm (fun i => oB (P i) j + (if i = u then oB o j else 0)) n := by
    refine sm_congr fun i _ => ?_
    unfold va_up
    by_cases q : i = u
    · rw [if_pos q, if_pos q, if_pos q, q]
      omega
    · rw [if_neg q, if_neg q, if_neg q]
  rw [sm_add, sm_add, sm_one (k := u) hu (fun i _ hne => if_neg hne), sm_one (f := fun i => if i = u then oB o j else 0) (k := u) hu (fun i _ hne => if_neg hne), if_pos rfl, if_pos rfl] at e
  exact e
def EV (ab : Nat → Nat) (up : Nat) (P : Nat → Option Nat) : Prop := ∀ u j, P u = some j → (ab j &&& up).testBit u = true
def clsd (ab : Nat → Nat) (up : Nat) (X Y : Nat) (P : Nat → Option Nat) : Prop := (∀ j, X.testBit j = true → ∀ u, (ab j &&& up).testBit u = true → Y.testBit u = true) ∧ ∀ u, Y.testBit u = true → ∃ j, X.testBit j = true ∧ P u = some j
abbrev puT : Type := Nat → (Nat → Option Nat) → Nat → Bool × (Nat → Option Nat) × Nat
/-- what a try from 'lower' over the uppers from k on gives -/
def puR (ab : Nat → Nat) (n up k lower : Nat) (P : Nat → Option Nat) (T : Nat) (r : Bool × (Nat → Option Nat) × Nat) : Prop :=
  (r.1 = true → (∀ u, T.testBit u = true → r.2.1 u = P u) ∧ (∀ j, cP n r.2.1 j = cP n P j + (if lower = j then 1 else 0)) ∧ (EV ab up P → EV ab up r.2.1)) ∧
  (r.1 = false → r.2.1 = P ∧ Sub T r.2.2 ∧ r.2.2 < 2 ^ n ∧ (∀ u, k ≤ u → u < n → (ab lower &&& up).testBit u = true → r.2.2.testBit u = true) ∧ ∀ u, r.2.2.testBit u = true → T.testBit u = false → ∃ j, P u = some j ∧ ∀ w, w < n → (ab j &&& up).testBit w = true → r.2.2.testBit w = true) ∧
  ∀ X Y, clsd ab up X Y P → (X.testBit lower = true → r.1 = false) ∧ (X.testBit lower = false → r.1 = true → ∀ u, Y.testBit u = true → r.2.1 u = P u)
def puG (ab : Nat → Nat) (n up D : Nat) (F : puT) : Prop := ∀ lower P T, T < 2 ^ n → n < D + npc n T → puR ab n up 0 lower P T (F lower P T)
theorem npc_set {T u n : Nat} (hu : u < n) (h : T.testBit u = false) : npc n (T ||| 2 ^ u) = npc n T + 1 := by
  rw [npc_clr (v := u) hu (by rw [tb_or2, decide_eq_true rfl, Bool.or_true])]
  congr 1
  congr 1
  refine Sub.eq (fun i hi => ?_) (fun i hi => ?_)
  · rw [clr_tb, tb_or2, Bool.or_eq_true, decide_eq_true_eq] at hi
    exact hi.1.resolve_right hi.2
  · rw [clr_tb, tb_or2, hi]
    exact ⟨rfl, fun e => by rw [← e, h] at hi; cases hi⟩
theorem pul_gd {ab : Nat → Nat} {n up D : Nat} {F : puT} (hF : puG ab n up D F) (lower : Nat) : ∀ m P T, m ≤ n → T < 2 ^ n → n < D + 1 + npc n T → puR ab n up (n - m) lower P T (pul ab n up F lower m P T)
  | 0, P, T, _, hT, _ => by
    refine ⟨(fun h => by cases h), fun _ => ⟨rfl, fun _ h => h, hT, fun u h1 h2 => by omega, fun u h1 h2 => ?_⟩, fun X Y _ => ⟨fun _ => rfl, fun _ h => by cases h⟩⟩
    have h1 : T.testBit u = true := h1
    rw [h1] at h2; cases h2
  | m + 1, P, T, hm, hT, hfu => by
    unfold pul
    generalize hu : n - (m + 1) = u
    have hun : u < n := by omega
    by_cases q : (ab lower &&& up).testBit u = true ∧ T.testBit u = false
    · rw [if_pos q]
      have hT2 : T ||| 2 ^ u < 2 ^ n := nb_lt_or hT (nb_lt_pow hun)
      have hpc := npc_set hun q.2
      have tset : (T ||| 2 ^ u).testBit u = true := by rw [tb_or2, decide_eq_true rfl, Bool.or_true]
      have tsub : Sub T (T ||| 2 ^ u) := fun i hi => by rw [tb_or2, hi]; rfl
      cases hP : P u with
      | none =>
        refine ⟨fun _ => ⟨fun i hi => ?_, fun j => ?_, fun hE i j hij => ?_⟩, (fun h => by cases h), fun X Y hC => ⟨fun hX => ?_, fun _ _ i hi => ?_⟩⟩
        · show va_up P u (some lower) i = P i
          exact if_neg fun e => by rw [e, q.2] at hi; cases hi
        · have := cP_up P hun (some lower) j
          show cP n (va_up P u (some lower)) j = _
          rw [hP] at this
          have e1 : oB none j = 0 := if_neg (by simp)
          have e2 : oB (some lower) j = if lower = j then 1 else 0 := by
            unfold oB
            by_cases e : lower = j
            · rw [if_pos (by rw [e]), if_pos e]
            · rw [if_neg (fun z => e (Option.some.inj z)), if_neg e]
          omega
        · have hij : va_up P u (some lower) i = some j := hij
          unfold va_up at hij
          by_cases e : i = u
          · rw [if_pos e] at hij
            cases hij
            rw [e]; exact q.1
          · rw [if_neg e] at hij
            exact hE i j hij
        · exfalso
          obtain ⟨j, _, e⟩ := hC.2 u (hC.1 lower hX u q.1)
          rw [hP] at e; cases e
        · show va_up P u (some lower) i = P i
          refine if_neg fun e => ?_
          obtain ⟨j, _, e2⟩ := hC.2 i hi
          rw [e, hP] at e2; cases e2
      | some j0 =>
        have HF := hF j0 P (T ||| 2 ^ u) hT2 (by omega)
        show puR ab n up u lower P T (match F j0 P (T ||| 2 ^ u) with
          | (true, P2, T2) => (true, va_up P2 u (some lower), T2)
          | (false, P2, T2) => pul ab n up F lower m P2 T2)
        generalize F j0 P (T ||| 2 ^ u) = r at HF ⊢
        obtain ⟨rb, P2, T2⟩ := r
        cases rb with
        | true =>
          obtain ⟨s1, s2, s3⟩ := HF.1 rfl
          have e0 : P2 u = some j0 := by rw [← hP]; exact s1 u tset
          refine ⟨fun _ => ⟨fun i hi => ?_, fun j => ?_, fun hE i j hij => ?_⟩, (fun h => by cases h), fun X Y hC => ⟨fun hX => ?_, fun _ _ i hi => ?_⟩⟩
          · show va_up P2 u (some lower) i = P i
            have hne : i ≠ u := fun e => by rw [e, q.2] at hi; cases hi
            have : va_up P2 u (some lower) i = P2 i := if_neg hne
            rw [this]
            exact s1 i (tsub i hi)
          · have := cP_up P2 hun (some lower) j
            show cP n (va_up P2 u (some lower)) j = _
            rw [e0] at this
            have h2 : cP n P2 j = cP n P j + (if j0 = j then 1 else 0) := s2 j
            have ob : ∀ x, oB (some x) j = if x = j then 1 else 0 := by
              intro x
              unfold oB
              by_cases e : x = j
              · rw [if_pos (by rw [e]), if_pos e]
              · rw [if_neg (fun z => e (Option.some.inj z)), if_neg e]
            rw [ob, ob] at this
            omega
          · have hij : va_up P2 u (some lower) i = some j := hij
            unfold va_up at hij
            by_cases e : i = u
            · rw [if_pos e] at hij
              cases hij
              rw [e]; exact q.1
            · rw [if_neg e] at hij
              exact s3 hE i j hij
          · exfalso
            obtain ⟨j, j1, j2⟩ := hC.2 u (hC.1 lower hX u q.1)
            rw [hP] at j2
            cases j2
            have := (HF.2.2 X Y hC).1 j1
            cases this
          · show va_up P2 u (some lower) i = P i
            have hXj : X.testBit j0 = false := by
              cases z : X.testBit j0 with
              | false => rfl
              | true => have := (HF.2.2 X Y hC).1 z; cases this
            have hne : i ≠ u := fun e => by
              obtain ⟨j, j1, j2⟩ := hC.2 i hi
              rw [e, hP] at j2
              cases j2
              rw [hXj] at j1; cases j1
            have : va_up P2 u (some lower) i = P2 i := if_neg hne
            rw [this]
            exact (HF.2.2 X Y hC).2 hXj rfl i hi
        | false =>
          obtain ⟨f1, f2, f3, f4, f5⟩ := HF.2.1 rfl
          have f1 : P2 = P := f1
          subst f1
          have hsub : Sub T T2 := fun i hi => f2 i (tsub i hi)
          have hnp : npc n T ≤ npc n T2 := npc_mono fun i _ hi => hsub i hi
          have ih := pul_gd hF lower m P2 T2 (by omega) f3 (by omega)
          show puR ab n up u lower P2 T (pul ab n up F lower m P2 T2)
          generalize pul ab n up F lower m P2 T2 = r2 at ih ⊢
          refine ⟨fun h => ⟨fun i hi => (ih.1 h).1 i (hsub i hi), (ih.1 h).2⟩, fun h => ?_, ih.2.2⟩
          obtain ⟨g1, g2, g3, g4, g5⟩ := ih.2.1 h
          refine ⟨g1, fun i hi => g2 i (hsub i hi), g3, fun w h1 h2 h3 => ?_, fun w h1 h2 => ?_⟩
          · rcases Nat.eq_or_lt_of_le h1 with e | e
            · rw [← e]; exact g2 u (f2 u tset)
            · exact g4 w (by omega) h2 h3
          · cases z : T2.testBit w with
            | false => exact g5 w h1 z
            | true =>
              cases z2 : (T ||| 2 ^ u).testBit w with
              | false =>
                obtain ⟨j, j1, j2⟩ := f5 w z z2
                exact ⟨j, j1, fun x x1 x2 => g2 x (j2 x x1 x2)⟩
              | true =>
                rw [tb_or2, h2, Bool.false_or, decide_eq_true_eq] at z2
                rw [← z2]
                exact ⟨j0, hP, fun x x1 x2 => g2 x (f4 x (Nat.zero_le _) x1 x2)⟩
    · rw [if_neg q]
      have ih := pul_gd hF lower m P T (by omega) hT hfu
      refine ⟨ih.1, fun h => ?_, ih.2.2⟩
      obtain ⟨g1, g2, g3, g4, g5⟩ := ih.2.1 h
      refine ⟨g1, g2, g3, fun w h1 h2 h3 => ?_, g5⟩
      rcases Nat.eq_or_lt_of_le h1 with e | e
      · rw [← e] at h3 ⊢
        refine g2 u ?_
        cases z : T.testBit u with
        | true => rfl
        | false => exact absurd ⟨h3, z⟩ q
      · exact g4 w (by omega) h2 h3
theorem pu_good (ab : Nat → Nat) (n up : Nat) : ∀ D, puG ab n up D (pu ab n up D)
  | 0 => fun lower P T _ hfu => by
    have := npc_le n T
    omega
  | D + 1 => fun lower P T hT hfu => by
    have := pul_gd (pu_good ab n up D) lower n P T (Nat.le_refl _) hT hfu
    rw [Nat.sub_self] at this
    exact this
