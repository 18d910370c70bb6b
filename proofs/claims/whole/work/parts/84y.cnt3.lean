/-! ROWS: rows, places, before -/
section CNV
variable {n : Nat} {bl ab : Nat → Nat} {Lf : Nat → Bool}
theorem rows_eq (h : Tied n bl ab Lf) (hn : n ≤ 14) (g0 : Nat → Int64) : rBeg bl n (2 ^ n - 1) = foA Lf n g0 (2 ^ n - 1) := by
  have hp := Nat.two_pow_pos n
  rw [rBeg_eq h hn (by omega), foA_eq h g0 (by omega), if_pos (idB_all h.1)]
theorem pl_iff (h : Tied n bl ab Lf) {v k : Nat} (hv : v < n) (hk : k < 2 ^ n) : (!k.testBit v && (idB bl n k && idB bl n (k ||| 2 ^ v))) = true ↔ idB bl n k = true ∧ mayB bl (ndf (2 ^ n - 1) k) v = true := by
  have ht : k ||| 2 ^ v < 2 ^ n := nb_lt_or hk (nb_lt_pow hv)
  simp only [Bool.and_eq_true, Bool.not_eq_true']
  refine ⟨fun ⟨a, b, c⟩ => ⟨b, mayB_iff.mpr ⟨by rw [ndf_tb, all_tb, decide_eq_true hv, a]; rfl, fun u hu => ?_⟩⟩, fun ⟨a, b⟩ => ?_⟩
  · have := (idB_iff ht).mp c v (by rw [tb_or2, decide_eq_true rfl, Bool.or_true]) u hu
    rw [tb_or2, Bool.or_eq_true, decide_eq_true_eq] at this
    rcases this with z | z
    · rw [ndf_tb, z]; simp
    · rw [← z, h.1.2.1, h.1.2.2.1] at hu; cases hu
  · have m := (mayB_iff.mp b).1
    rw [ndf_tb, all_tb, decide_eq_true hv, Bool.true_and] at m
    exact ⟨by simpa using m, a, (id_next h.1 hk hv a b).1⟩
theorem places_eq (h : Tied n bl ab Lf) (hn : n ≤ 14) {E : Nat → Int64} (hE : reV bl n E) (g0 : Nat → Int64) {v p : Nat} (hv : v < n) : ∀ k, k ≤ 2 ^ n → rwp bl (rBeg bl n) E v p k = plS Lf n v p (foA Lf n g0) k
  | 0, _ => rfl
  | k + 1, hk => by
    have ih := places_eq h hn hE g0 (v := v) (p := p) hv k (by omega)
    have hp := Nat.two_pow_pos n
    have hpc : npc 31 k = npc 14 k := npc_eq (n := n) (by omega) (by omega) hn
    have ht : k ||| 2 ^ v < 2 ^ n := nb_lt_or (by omega) (nb_lt_pow hv)
    unfold rwp plS
    rw [ih]
    have hq : plQ Lf n v p k = true ↔ npc 14 k = p ∧ idB bl n k = true ∧ mayB bl (ndf (2 ^ n - 1) k) v = true := by
      unfold plQ
      rw [Bool.and_eq_true, decide_eq_true_eq, hpc, ideal_eq h (by omega), ideal_eq h ht, pl_iff h hv (by omega)]
    by_cases q1 : npc 14 k = p
    · by_cases q2 : idB bl n k = true
      · rw [if_pos ⟨by rw [rBeg_0 h hn (by omega), q2]; decide, q1⟩, rof_eq h hn hE (by omega) q2 hv, rBeg_eq h hn (by omega), if_pos q2]
        unfold nxN
        by_cases q3 : mayB bl (ndf (2 ^ n - 1) k) v = true
        · have hl1 := ndf_le (2 ^ n - 1) k
          have hl2 := ndf_le (ndf (2 ^ n - 1) k) (2 ^ v)
          rw [if_pos q3, if_pos (hq.mpr ⟨q1, q2, q3⟩), foA_eq h g0 (by omega), foA_eq h g0 (by omega)]
        · rw [if_neg q3, if_neg (fun z => q3 (hq.mp z).2.2), show lJ 0 = 0 from rfl, Int64.mul_zero, Int64.add_zero]
      · rw [if_neg (fun z => z.1 ((rBeg_0 h hn (by omega)).mpr (Bool.eq_false_iff.mpr q2))), if_neg (fun z => q2 (hq.mp z).2.1)]
    · rw [if_neg (fun z => q1 z.2), if_neg (fun z => q1 (hq.mp z).1)]
/-! one thing at its place: all rows by what comes before it -/
def spB (bl : Nat → Nat) (n v t s : Nat) : Bool := decide (ndf s t = 0) && (!s.testBit v && (allB (fun x => !s.testBit x || decide (ndf (bl x &&& t) s = 0)) n && decide (ndf (bl v &&& t) s = 0)))
theorem spB_iff {v t s : Nat} (ht : t < 2 ^ n) : spB bl n v t s = true ↔ Sub s t ∧ s.testBit v = false ∧ (∀ x, s.testBit x = true → ∀ u, t.testBit u = true → (bl x).testBit u = true → s.testBit u = true) ∧ ∀ u, t.testBit u = true → (bl v).testBit u = true → s.testBit u = true := by
  unfold spB
  simp only [Bool.and_eq_true, decide_eq_true_eq, Bool.not_eq_true', ndf_0, allB_iff]
  have c : ∀ x u, ((bl x &&& t).testBit u = true) ↔ (bl x).testBit u = true ∧ t.testBit u = true := fun x u => by rw [Nat.testBit_and, Bool.and_eq_true]
  refine ⟨fun ⟨a, b, d, e⟩ => ⟨a, b, fun x hx u hu hr => ?_, fun u hu hr => e u ((c v u).mpr ⟨hr, hu⟩)⟩, fun ⟨a, b, d, e⟩ => ⟨a, b, fun x _ => ?_, fun u hu => e u ((c v u).mp hu).2 ((c v u).mp hu).1⟩⟩
  · have := d x (tb_lt_of ht (a x hx))
    rw [hx] at this
    simp only [Bool.not_true, Bool.false_or, decide_eq_true_eq, ndf_0] at this
    exact this u ((c x u).mpr ⟨hr, hu⟩)
  · cases hx : s.testBit x with
    | false => rfl
    | true =>
      simp only [Bool.not_true, Bool.false_or, decide_eq_true_eq, ndf_0]
      exact fun u hu => d x hx u ((c x u).mp hu).2 ((c x u).mp hu).1
/-- t without s and v -/
abbrev rst (t s v : Nat) : Nat := ndf (ndf t s) (2 ^ v)
theorem rst_tb (t s v i : Nat) : (rst t s v).testBit i = true ↔ t.testBit i = true ∧ s.testBit i = false ∧ v ≠ i := by
  rw [clr_tb, ndf_tb, Bool.and_eq_true, Bool.not_eq_true']
  exact ⟨fun h => ⟨h.1.1, h.1.2, h.2⟩, fun h => ⟨⟨h.1, h.2.1⟩, h.2.2⟩⟩
theorem split_v (h : Ord n bl ab) {v : Nat} (hv : v < n) : ∀ t, t < 2 ^ n → t.testBit v = true → cN ab n t = sm (fun s => if spB bl n v t s = true then cN ab n s * cN ab n (rst t s v) else 0) (2 ^ n) := by
  intro t
  induction t using Nat.strongRecOn with
  | ind t ih =>
    intro ht htv
    have e0 : t ≠ 0 := fun e => by rw [e, Nat.zero_testBit] at htv; cases htv
    have irr : ∀ x, (bl x).testBit x = false := fun x => by rw [h.2.1]; exact h.2.2.1 x
    -- one step on both sides
    have key : ∀ w s, (w ≠ v ∧ mayB ab t w = true ∧ spB bl n v (ndf t (2 ^ w)) s = true) ↔ (spB bl n v t s = true ∧ mayB ab (rst t s v) w = true) := by
      intro w s
      have hlt : ndf t (2 ^ w) < 2 ^ n := Nat.lt_of_le_of_lt (ndf_le _ _) ht
      rw [spB_iff hlt, spB_iff ht, mayB_iff, mayB_iff]
      refine ⟨fun ⟨hne, ⟨m1, m2⟩, a, b, c, d⟩ => ?_, fun ⟨⟨a, b, c, d⟩, m1, m2⟩ => ?_⟩
      · have hws : s.testBit w = false := by
          cases q : s.testBit w with
          | false => rfl
          | true => exact absurd rfl ((clr_tb t w w).mp (a w q)).2
        refine ⟨⟨fun i hi => ((clr_tb t w i).mp (a i hi)).1, b, fun x hx u hu hr => ?_, fun u hu hr => ?_⟩, (rst_tb t s v w).mpr ⟨m1, hws, fun e => hne e.symm⟩, fun u hu => ?_⟩
        · refine c x hx u ((clr_tb t w u).mpr ⟨hu, fun e => ?_⟩) hr
          subst e
          rw [h.2.1] at hr
          have := m2 x hr
          rw [((clr_tb t w x).mp (a x hx)).1] at this
          cases this
        · refine d u ((clr_tb t w u).mpr ⟨hu, fun e => ?_⟩) hr
          subst e
          rw [h.2.1] at hr
          rw [m2 v hr] at htv
          cases htv
        · cases q : (rst t s v).testBit u with
          | false => rfl
          | true =>
            have := m2 u hu
            rw [((rst_tb t s v u).mp q).1] at this
            cases this
      · obtain ⟨w1, w2, w3⟩ := (rst_tb t s v w).mp m1
        refine ⟨fun e => w3 e.symm, ⟨w1, fun u hu => ?_⟩, fun i hi => (clr_tb t w i).mpr ⟨a i hi, fun e => by rw [← e, w2] at hi; cases hi⟩, b, fun x hx u hu hr => c x hx u ((clr_tb t w u).mp hu).1 hr, fun u hu hr => d u ((clr_tb t w u).mp hu).1 hr⟩
        cases q : t.testBit u with
        | false => rfl
        | true =>
          by_cases z : s.testBit u = true
          · have := c u z w w1 (by rw [h.2.1]; exact hu)
            rw [w2] at this; cases this
          · by_cases z2 : v = u
            · subst z2
              have := d w w1 (by rw [h.2.1]; exact hu)
              rw [w2] at this; cases this
            · have := m2 u hu
              rw [(rst_tb t s v u).mpr ⟨q, Bool.eq_false_iff.mpr z, z2⟩] at this
              cases this
    have comm : ∀ w s, rst (ndf t (2 ^ w)) s v = ndf (rst t s v) (2 ^ w) := by
      intro w s
      refine Sub.eq (fun i hi => ?_) (fun i hi => ?_)
      · rw [rst_tb, clr_tb] at hi
        rw [clr_tb, rst_tb]
        exact ⟨⟨hi.1.1, hi.2⟩, hi.1.2⟩
      · rw [clr_tb, rst_tb] at hi
        rw [rst_tb, clr_tb]
        exact ⟨⟨hi.1.1, hi.2⟩, hi.1.2⟩
    -- the last one of a row is v itself
    have hvt : ndf t (2 ^ v) < t := clr_lt htv
    have last : ∀ s, spB bl n v t s = true → (rst t s v = 0 ↔ s = ndf t (2 ^ v)) := by
      intro s hs
      rw [spB_iff ht] at hs
      refine ⟨fun e => Sub.eq (fun i hi => (clr_tb t v i).mpr ⟨hs.1 i hi, fun z => by rw [← z, hs.2.1] at hi; cases hi⟩) (fun i hi => ?_), fun e => ?_⟩
      · rw [clr_tb] at hi
        cases q : s.testBit i with
        | true => rfl
        | false =>
          have : (rst t s v).testBit i = true := (rst_tb t s v i).mpr ⟨hi.1, q, hi.2⟩
          rw [e, Nat.zero_testBit] at this
          cases this
      · apply Nat.eq_of_testBit_eq
        intro i
        rw [Nat.zero_testBit]
        cases q : (rst t s v).testBit i with
        | false => rfl
        | true =>
          obtain ⟨q1, q2, q3⟩ := (rst_tb t s v i).mp q
          rw [e, ndf_tb, q1, tb_pow, decide_eq_false q3] at q2
          cases q2
    have spl : spB bl n v t (ndf t (2 ^ v)) = mayB ab t v := by
      rw [Bool.eq_iff_iff, spB_iff ht, mayB_iff]
      refine ⟨fun ⟨a, b, c, d⟩ => ⟨htv, fun u hu => ?_⟩, fun ⟨m1, m2⟩ => ⟨fun i hi => ((clr_tb t v i).mp hi).1, ?_, fun x hx u hu hr => (clr_tb t v u).mpr ⟨hu, fun e => ?_⟩, fun u hu hr => (clr_tb t v u).mpr ⟨hu, fun e => ?_⟩⟩⟩
      · cases q : t.testBit u with
        | false => rfl
        | true =>
          have hne : v ≠ u := fun e => by rw [← e, h.2.2.1] at hu; cases hu
          have := c u ((clr_tb t v u).mpr ⟨q, hne⟩) v htv (by rw [h.2.1]; exact hu)
          rw [b] at this; cases this
      · rw [ndf_tb, tb_pow, decide_eq_true rfl]; simp
      · subst e
        rw [h.2.1] at hr
        have := m2 x hr
        rw [((clr_tb t v x).mp hx).1] at this
        cases this
      · subst e
        rw [irr] at hr
        cases hr
    -- the left side
    have eL : cN ab n t = (if mayB ab t v = true then cN ab n (ndf t (2 ^ v)) else 0) + sm (fun w => sm (fun s => if spB bl n v t s = true ∧ mayB ab (rst t s v) w = true then cN ab n s * cN ab n (ndf (rst t s v) (2 ^ w)) else 0) (2 ^ n)) n := by
      rw [cN_rec ab n e0]
      have e1 : sm (fun w => if mayB ab t w = true then cN ab n (ndf t (2 ^ w)) else 0) n = sm (fun w => (if w = v then (if mayB ab t v = true then cN ab n (ndf t (2 ^ v)) else 0) else 0) + sm (fun s => if spB bl n v t s = true ∧ mayB ab (rst t s v) w = true then cN ab n s * cN ab n (ndf (rst t s v) (2 ^ w)) else 0) (2 ^ n)) n := by
        refine sm_congr fun w _ => ?_
        by_cases e : w = v
        · rw [if_pos e, e, sm_0 fun s _ => if_neg fun z => ((key v s).mpr z).1 rfl, Nat.add_zero]
        · rw [if_neg e, Nat.zero_add]
          by_cases q : mayB ab t w = true
          · have hb := (mayB_iff.mp q).1
            have hlt := clr_lt hb
            rw [if_pos q, ih _ hlt (by omega) ((clr_tb t w v).mpr ⟨htv, e⟩)]
            refine sm_congr fun s _ => ?_
            by_cases z : spB bl n v (ndf t (2 ^ w)) s = true
            · rw [if_pos z, if_pos ((key w s).mp ⟨e, q, z⟩), comm]
            · rw [if_neg z, if_neg (fun y => z ((key w s).mpr y).2.2)]
          · rw [if_neg q]
            exact (sm_0 fun s _ => if_neg fun z => q ((key w s).mpr z).2.1).symm
      rw [e1, sm_add, sm_one (k := v) hv (fun i _ hne => if_neg hne), if_pos rfl]
    rw [eL, sm_swap]
    have eR : sm (fun s => if spB bl n v t s = true then cN ab n s * cN ab n (rst t s v) else 0) (2 ^ n) = sm (fun s => (if s = ndf t (2 ^ v) then (if mayB ab t v = true then cN ab n (ndf t (2 ^ v)) else 0) else 0) + sm (fun w => if spB bl n v t s = true ∧ mayB ab (rst t s v) w = true then cN ab n s * cN ab n (ndf (rst t s v) (2 ^ w)) else 0) n) (2 ^ n) := by
      refine sm_congr fun s _ => ?_
      by_cases q : spB bl n v t s = true
      · rw [if_pos q]
        by_cases z : rst t s v = 0
        · have es := (last s q).mp z
          rw [if_pos es, sm_0 fun w _ => if_neg fun y => by
            have := (mayB_iff.mp y.2).1
            rw [z, Nat.zero_testBit] at this
            cases this]
          rw [es, spl] at q
          rw [if_pos q, z, cN_0, es, Nat.mul_one, Nat.add_zero]
        · rw [if_neg (fun y => z ((last s q).mpr y)), Nat.zero_add, cN_rec ab n z, sm_mulL]
          refine sm_congr fun w _ => ?_
          by_cases y : mayB ab (rst t s v) w = true
          · rw [if_pos y, if_pos ⟨q, y⟩]
          · rw [if_neg y, if_neg (fun x => y x.2), Nat.mul_zero]
      · rw [if_neg q, sm_0 fun w _ => if_neg fun y => q y.1, Nat.add_zero]
        by_cases z : s = ndf t (2 ^ v)
        · rw [if_pos z]
          rw [z, spl] at q
          rw [if_neg q]
        · rw [if_neg z]
    rw [eR, sm_add, sm_one (k := ndf t (2 ^ v)) (by omega) (fun i _ hne => if_neg hne), if_pos rfl]
theorem cN_congr {m m' : Nat → Nat} : ∀ s, (∀ x y, s.testBit x = true → s.testBit y = true → (m x).testBit y = (m' x).testBit y) → cN m n s = cN m' n s := by
  intro s
  induction s using Nat.strongRecOn with
  | ind s ih =>
    intro hm
    by_cases e : s = 0
    · rw [e]; rfl
    · rw [cN_rec m n e, cN_rec m' n e]
      refine sm_congr fun v _ => ?_
      have q : mayB m s v = mayB m' s v := by
        rw [Bool.eq_iff_iff, mayB_iff, mayB_iff]
        refine and_congr_right fun hv => ⟨fun g u hu => ?_, fun g u hu => ?_⟩
        · cases z : s.testBit u with
          | false => rfl
          | true => rw [← hm v u hv z] at hu; have := g u hu; rw [z] at this; cases this
        · cases z : s.testBit u with
          | false => rfl
          | true => rw [hm v u hv z] at hu; have := g u hu; rw [z] at this; cases this
      rw [q]
      by_cases z : mayB m' s v = true
      · rw [if_pos z, if_pos z]
        exact ih _ (clr_lt (mayB_iff.mp z).1) (fun x y hx hy => hm x y ((clr_tb s v x).mp hx).1 ((clr_tb s v y).mp hy).1)
      · rw [if_neg z, if_neg z]
theorem rwf_sum (h : Tied n bl ab Lf) (hn : n ≤ 14) {E : Nat → Int64} (hE : reV bl n E) {i j : Nat} (hj : j < n) : ∀ k, k ≤ 2 ^ n → rwf bl (rBeg bl n) E i j k = lJ (sm (fun s => if s.testBit i = true ∧ idB bl n s = true ∧ mayB bl (ndf (2 ^ n - 1) s) j = true then cN ab n s * cN ab n (rst (2 ^ n - 1) s j) else 0) k)
  | 0, _ => rfl
  | k + 1, hk => by
    have ih := rwf_sum h hn hE (i := i) hj k (by omega)
    unfold rwf sm
    rw [ih, ← lJ_add]
    by_cases q1 : k.testBit i = true
    · by_cases q2 : idB bl n k = true
      · rw [if_pos ⟨q1, by rw [rBeg_0 h hn (by omega), q2]; decide⟩, rof_eq h hn hE (by omega) q2 hj, rBeg_eq h hn (by omega), if_pos q2]
        unfold nxN
        by_cases q3 : mayB bl (ndf (2 ^ n - 1) k) j = true
        · rw [if_pos q3, if_pos ⟨q1, q2, q3⟩, lJ_mul]
        · rw [if_neg q3, if_neg (fun z => q3 z.2.2), show lJ 0 = 0 from rfl, Int64.mul_zero]
      · rw [if_neg (fun z => z.2 ((rBeg_0 h hn (by omega)).mpr (Bool.eq_false_iff.mpr q2))), if_neg (fun z => q2 z.2.1), show lJ 0 = 0 from rfl, Int64.add_zero]
    · rw [if_neg (fun z => q1 z.1), if_neg (fun z => q1 z.1), show lJ 0 = 0 from rfl, Int64.add_zero]
theorem before_0 (h : Tied n bl ab Lf) (hn : n ≤ 14) {E : Nat → Int64} (hE : reV bl n E) {i j : Nat} (hj : j < n) (hji : (ab j).testBit i = true) : rwf bl (rBeg bl n) E i j (2 ^ n) = 0 := by
  have z : sm (fun s => if s.testBit i = true ∧ idB bl n s = true ∧ mayB bl (ndf (2 ^ n - 1) s) j = true then cN ab n s * cN ab n (rst (2 ^ n - 1) s j) else 0) (2 ^ n) = 0 := by
    refine sm_0 fun s hs => if_neg fun q => ?_
    have h1 := (idB_iff hs).mp q.2.1 i q.1 j (by rw [h.1.2.1]; exact hji)
    have h2 := (mayB_iff.mp q.2.2).1
    rw [ndf_tb, h1] at h2
    simp at h2
  rw [rwf_sum h hn hE hj _ (Nat.le_refl _), z]
  rfl
theorem before_eq (h : Tied n bl ab Lf) (hn : n ≤ 14) {E : Nat → Int64} (hE : reV bl n E) (g0 : Nat → Int64) {i j : Nat} (hi : i < n) (hj : j < n) (hij : i ≠ j) (hji : (ab j).testBit i = false) : rwf bl (rBeg bl n) E i j (2 ^ n) = foA (clW n 257 (updB Lf (16 * i + j) true)) n g0 (2 ^ n - 1) := by
  have hp := Nat.two_pow_pos n
  have T := put_tied h hn hi hj hij hji
  have htb := put_tb h.1 hi hj
  have hbl := put_bl h.1 hi hj
  have hall : (2 ^ n - 1).testBit j = true := by rw [all_tb]; exact decide_eq_true hj
  rw [rwf_sum h hn hE hj _ (Nat.le_refl _), foA_eq T g0 (by omega), split_v T.1 hj (2 ^ n - 1) (by omega) hall]
  congr 1
  refine sm_congr fun s hs => ?_
  generalize orow (ab j ||| 2 ^ j) (bl i ||| 2 ^ i) bl n = bl' at T hbl ⊢
  generalize orow (bl i ||| 2 ^ i) (ab j ||| 2 ^ j) ab n = ab' at T htb hbl ⊢
  have key : spB bl' n j (2 ^ n - 1) s = true ↔ s.testBit i = true ∧ idB bl n s = true ∧ mayB bl (ndf (2 ^ n - 1) s) j = true := by
    rw [spB_iff (by omega), idB_iff hs, mayB_iff]
    have hbt : ∀ x u, (bl' x).testBit u = true ↔ (ab u).testBit x = true ∨ ((ab u).testBit i = true ∨ i = u) ∧ ((ab j).testBit x = true ∨ j = x) := fun x u => by rw [hbl, htb]
    have hin : ∀ u, u < n → (2 ^ n - 1).testBit u = true := fun u hu => by rw [all_tb]; exact decide_eq_true hu
    refine ⟨fun ⟨a, b, c, d⟩ => ?_, fun ⟨a, b, c, d⟩ => ?_⟩
    · refine ⟨d i (hin i hi) ((hbt j i).mpr (Or.inr ⟨Or.inr rfl, Or.inr rfl⟩)), fun x hx u hu => ?_, ?_, fun u hu => ?_⟩
      · rw [h.1.2.1] at hu
        exact c x hx u (hin u (h.1.1 u x hu).1) ((hbt x u).mpr (Or.inl hu))
      · rw [ndf_tb, hall, b]; rfl
      · rw [h.1.2.1] at hu
        have := d u (hin u (h.1.1 u j hu).1) ((hbt j u).mpr (Or.inl hu))
        rw [ndf_tb, this]; simp
    · have hjs : s.testBit j = false := by
        rw [ndf_tb, hall] at c
        cases q : s.testBit j with
        | false => rfl
        | true => rw [q] at c; cases c
      have hle : ∀ u, ((ab u).testBit i = true ∨ i = u) → s.testBit u = true := by
        intro u hu
        rcases hu with z | z
        · exact b i a u (by rw [h.1.2.1]; exact z)
        · rw [← z]; exact a
      have hblj : ∀ u, (ab u).testBit j = true → s.testBit u = true := by
        intro u hu
        have := d u (by rw [h.1.2.1]; exact hu)
        rw [ndf_tb, hin u (h.1.1 u j hu).1] at this
        cases q : s.testBit u with
        | true => rfl
        | false => rw [q] at this; cases this
      refine ⟨fun u hu => hin u (tb_lt_of hs hu), hjs, fun x hx u _ hu => ?_, fun u _ hu => ?_⟩
      · rcases (hbt x u).mp hu with z | ⟨z1, z2⟩
        · exact b x hx u (by rw [h.1.2.1]; exact z)
        · exact hle u z1
      · rcases (hbt j u).mp hu with z | ⟨z1, z2⟩
        · exact hblj u z
        · exact hle u z1
  by_cases q : spB bl' n j (2 ^ n - 1) s = true
  · have q2 := key.mp q
    have hjs : s.testBit j = false := by
      have := (mayB_iff.mp q2.2.2).1
      rw [ndf_tb, hall] at this
      cases z : s.testBit j with
      | false => rfl
      | true => rw [z] at this; cases this
    have hid := (idB_iff hs).mp q2.2.1
    rw [if_pos q, if_pos q2]
    congr 1
    · refine cN_congr s fun x y hx hy => ?_
      rw [Bool.eq_iff_iff, htb]
      refine ⟨fun z => Or.inl z, fun z => z.resolve_right fun w => ?_⟩
      rcases w.2 with w2 | w2
      · have := hid y hy j (by rw [h.1.2.1]; exact w2)
        rw [hjs] at this; cases this
      · rw [← w2, hjs] at hy; cases hy
    · refine cN_congr _ fun x y hx hy => ?_
      rw [rst_tb] at hx hy
      rw [Bool.eq_iff_iff, htb]
      refine ⟨fun z => Or.inl z, fun z => z.resolve_right fun w => ?_⟩
      rcases w.1 with w1 | w1
      · have := hid i q2.1 x (by rw [h.1.2.1]; exact w1)
        rw [hx.2.1] at this; cases this
      · rw [← w1, q2.1] at hx; cases hx.2.1
  · rw [if_neg q, if_neg (fun z => q (key.mpr z))]
end CNV
