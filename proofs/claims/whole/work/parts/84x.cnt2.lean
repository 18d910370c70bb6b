/-! ROWS: the tables of class and model hold these counts -/
abbrev lJ (x : Nat) : Int64 := Int64.ofNat x
theorem lJ_add (a b : Nat) : lJ a + lJ b = lJ (a + b) := (Int64.ofNat_add a b).symm
theorem lJ_mul (a b : Nat) : lJ a * lJ b = lJ (a * b) := (Int64.ofNat_mul a b).symm
theorem lJ_int {a : Nat} (h : a < 2 ^ 62) : (lJ a).toInt = a := Int64.toInt_ofNat_of_lt (by omega)
theorem lJ_eq {a b : Nat} (ha : a < 2 ^ 62) (hb : b < 2 ^ 62) : lJ a = lJ b ↔ a = b := by
  refine ⟨fun h => ?_, fun h => by rw [h]⟩
  have := congrArg Int64.toInt h
  rw [lJ_int ha, lJ_int hb] at this
  omega
theorem lJ_0 {a : Nat} (ha : a < 2 ^ 62) : lJ a = 0 ↔ a = 0 := lJ_eq (b := 0) ha (by decide)
theorem lJ_lt {a b : Nat} (ha : a < 2 ^ 62) (hb : b < 2 ^ 62) : lJ a < lJ b ↔ a < b := by
  rw [Int64.lt_iff_toInt_lt, lJ_int ha, lJ_int hb]
  omega
theorem lJ_le {a b : Nat} (ha : a < 2 ^ 62) (hb : b < 2 ^ 62) : lJ a ≤ lJ b ↔ a ≤ b := by
  rw [Int64.le_iff_toInt_le, lJ_int ha, lJ_int hb]
  omega
theorem lJ_of {k : Int64} {c : Nat} (hc : c < 2 ^ 62) (h0 : ¬ k < 0) (h : k < lJ c) : ∃ a, a < c ∧ k = lJ a := by
  rw [Int64.lt_iff_toInt_lt, lJ_int hc] at h
  rw [Int64.lt_iff_toInt_lt] at h0
  have h0 : ¬ k.toInt < 0 := h0
  refine ⟨k.toInt.toNat, by omega, ?_⟩
  apply Int64.toInt_inj.mp
  rw [lJ_int (by omega)]
  omega
def idB (bl : Nat → Nat) (n s : Nat) : Bool := allB (fun v => !s.testBit v || decide (ndf (bl v) s = 0)) n
theorem idB_iff {bl : Nat → Nat} {n s : Nat} (hs : s < 2 ^ n) : idB bl n s = true ↔ ∀ v, s.testBit v = true → Sub (bl v) s := by
  unfold idB
  rw [allB_iff]
  refine ⟨fun h v hv => ?_, fun h v _ => ?_⟩
  · have := h v (tb_lt_of hs hv)
    rw [hv] at this
    simp only [Bool.not_true, Bool.false_or, decide_eq_true_eq] at this
    exact ndf_0.mp this
  · cases hv : s.testBit v with
    | false => rfl
    | true =>
      simp only [Bool.not_true, Bool.false_or, decide_eq_true_eq]
      exact ndf_0.mpr (h v hv)
section CNU
variable {n : Nat} {bl ab : Nat → Nat} {Lf : Nat → Bool}
theorem ideal_eq (h : Tied n bl ab Lf) {s : Nat} (hs : s < 2 ^ n) : allB (fun a => allB (pisIdeal Lf s a) n) n = idB bl n s := by
  rw [Bool.eq_iff_iff, idB_iff hs, allB_iff]
  refine ⟨fun g v hv u hu => ?_, fun g a ha => allB_iff.mpr fun b hb => ?_⟩
  · rw [h.1.2.1] at hu
    have hb := h.1.1 u v hu
    have := allB_iff.mp (g u hb.1) v hb.2
    unfold pisIdeal at this
    rw [hv, h.2 u v hb.1 hb.2, hu] at this
    simpa using this
  · unfold pisIdeal
    rw [h.2 a b ha hb]
    cases h1 : s.testBit b with
    | false => rfl
    | true =>
      cases h2 : (ab a).testBit b with
      | false => rfl
      | true =>
        rw [g b h1 a (by rw [h.1.2.1]; exact h2)]
        rfl
theorem las_eq (h : Tied n bl ab Lf) {s v : Nat} (hs : s < 2 ^ n) (hv : v < n) : lasB Lf n s v = mayB ab s v := by
  rw [Bool.eq_iff_iff, mayB_iff]
  unfold lasB
  rw [Bool.and_eq_true, allB_iff]
  refine and_congr_right fun _ => ⟨fun g u hu => ?_, fun g u hu => ?_⟩
  · have hb := h.1.1 v u hu
    have := g u hb.2
    rw [h.2 v u hv hb.2, hu] at this
    simpa using this
  · rw [h.2 v u hv hu]
    cases h1 : (ab v).testBit u with
    | false => simp
    | true => rw [g u h1]; rfl
theorem may_eq (h : Tied n bl ab Lf) {s v : Nat} (hs : s < 2 ^ n) (hv : v < n) : mayC Lf n s v = mayB bl s v := by
  rw [Bool.eq_iff_iff, mayB_iff]
  unfold mayC
  rw [Bool.and_eq_true, allB_iff]
  refine and_congr_right fun _ => ⟨fun g u hu => ?_, fun g u hu => ?_⟩
  · rw [h.1.2.1] at hu
    have hb := h.1.1 u v hu
    have := g u hb.1
    rw [h.2 u v hb.1 hv, hu] at this
    simpa using this
  · rw [h.2 u v hu hv]
    cases h1 : (ab u).testBit v with
    | false => simp
    | true => rw [g u (by rw [h.1.2.1]; exact h1)]; rfl
theorem foI_eq (h : Tied n bl ab Lf) {s : Nat} (hs : s < 2 ^ n) {g : Nat → Int64} (hg : ∀ v, s.testBit v = true → g (ndf s (2 ^ v)) = lJ (cN ab n (ndf s (2 ^ v)))) : ∀ m, m ≤ n → foI Lf n s g m = lJ (sm (fun v => if mayB ab s v = true then cN ab n (ndf s (2 ^ v)) else 0) m)
  | 0, _ => rfl
  | m + 1, hm => by
    unfold foI sm
    rw [foI_eq h hs hg m (by omega), las_eq h hs (by omega), ← lJ_add]
    congr 1
    split
    · rename_i q
      exact hg m (mayB_iff.mp q).1
    · rfl
theorem foS_stay (Lf : Nat → Bool) (n : Nat) (g : Nat → Int64) (s : Nat) : ∀ d, foS Lf n g (s + d) s = foS Lf n g s s
  | 0 => rfl
  | d + 1 => by
    show vp_updL (foS Lf n g (s + d)) (s + d + 1) _ s = _
    rw [uL_n (by omega), foS_stay Lf n g s d]
theorem foA_eq (h : Tied n bl ab Lf) (g0 : Nat → Int64) {s : Nat} (hs : s < 2 ^ n) : foA Lf n g0 s = lJ (cN ab n s) := by
  have key : ∀ s, s < 2 ^ n → ∀ k, s ≤ k → foS Lf n g0 k s = lJ (cN ab n s) := by
    intro s
    induction s using Nat.strongRecOn with
    | ind s ih =>
      intro hs k hk
      obtain ⟨d, rfl⟩ : ∃ d, k = s + d := ⟨k - s, by omega⟩
      rw [foS_stay]
      cases s with
      | zero =>
        show vp_updL g0 0 1 0 = _
        rw [uL_s]
        rfl
      | succ s =>
        show vp_updL (foS Lf n g0 s) (s + 1) _ (s + 1) = _
        rw [uL_s, foI_eq h hs (fun v hv => by
          have hlt := clr_lt hv
          exact ih _ hlt (by omega) s (by omega)) n (Nat.le_refl _), cN_rec ab n (by omega)]
  exact key s hs (2 ^ n - 1) (by omega)
/-! beginnings -/
def bgN (bl ab : Nat → Nat) (n k t : Nat) : Nat := if t = 0 then 1 else if idB bl n t = true then sm (fun v => if mayB ab t v = true ∧ ndf t (2 ^ v) < k then cN ab n (ndf t (2 ^ v)) else 0) n else 0
theorem hoS_eq (bl : Nat → Nat) (s mis w : Nat) (B : Nat → Int64) (b : Nat → Nat) (t : Nat) (hB : B t = lJ (b t)) : ∀ m, hoS bl s mis (lJ w) B m t = lJ (b t + sm (fun v => if mayB bl mis v = true ∧ s ||| 2 ^ v = t then w else 0) m)
  | 0 => hB
  | m + 1 => by
    have ih := hoS_eq bl s mis w B b t hB m
    unfold hoS sm
    by_cases q : mayB bl mis m = true
    · rw [if_pos q]
      by_cases e : s ||| 2 ^ m = t
      · rw [e, uL_s, ih, if_pos ⟨q, rfl⟩, lJ_add]
        congr 1
        omega
      · rw [uL_n (fun z => e z.symm), ih, if_neg (fun z => e z.2), Nat.add_zero]
    · rw [if_neg q, ih, if_neg (fun z => q z.1), Nat.add_zero]
theorem bg_full {t k : Nat} (hk : t ≤ k) : bgN bl ab n k t = if idB bl n t = true then cN ab n t else 0 := by
  unfold bgN
  by_cases e : t = 0
  · rw [if_pos e, e, if_pos, cN_0]
    exact (idB_iff (Nat.two_pow_pos n)).mpr fun v hv => by rw [Nat.zero_testBit] at hv; cases hv
  · rw [if_neg e]
    by_cases q : idB bl n t = true
    · rw [if_pos q, if_pos q, cN_rec ab n e]
      refine sm_congr fun v _ => ?_
      by_cases z : mayB ab t v = true
      · have hlt := clr_lt (mayB_iff.mp z).1
        rw [if_pos z, if_pos ⟨z, by omega⟩]
      · rw [if_neg z, if_neg (fun w => z w.1)]
    · rw [if_neg q, if_neg q]
theorem bg_step (h : Ord n bl ab) {k t : Nat} (hk : k < 2 ^ n) (ht : t < 2 ^ n) : bgN bl ab n (k + 1) t = bgN bl ab n k t + (if idB bl n k = true then sm (fun v => if mayB bl (ndf (2 ^ n - 1) k) v = true ∧ k ||| 2 ^ v = t then cN ab n k else 0) n else 0) := by
  -- taking v off t gives the ideal k just when v may follow k, to give t
  have key : ∀ v, v < n → ((idB bl n t = true ∧ mayB ab t v = true ∧ ndf t (2 ^ v) = k) ↔ (idB bl n k = true ∧ mayB bl (ndf (2 ^ n - 1) k) v = true ∧ k ||| 2 ^ v = t)) := by
    intro v hv
    rw [idB_iff hk, idB_iff ht, mayB_iff, mayB_iff]
    refine ⟨fun ⟨a, ⟨b, c⟩, d⟩ => ?_, fun ⟨a, ⟨b, c⟩, d⟩ => ?_⟩
    · have hkt : ∀ i, k.testBit i = true ↔ t.testBit i = true ∧ v ≠ i := fun i => by rw [← d, clr_tb]
      have hvk : k.testBit v = false := by
        cases q : k.testBit v with
        | false => rfl
        | true => exact absurd rfl ((hkt v).mp q).2
      refine ⟨fun x hx u hu => ?_, ⟨?_, fun u hu => ?_⟩, Sub.eq (fun i hi => ?_) (fun i hi => ?_)⟩
      · refine (hkt u).mpr ⟨a x ((hkt x).mp hx).1 u hu, fun e => ?_⟩
        subst e
        rw [h.2.1] at hu
        have := c x hu
        rw [((hkt x).mp hx).1] at this
        cases this
      · rw [ndf_tb, all_tb, decide_eq_true hv, hvk]; rfl
      · have h1 := a v b u hu
        have h2 : k.testBit u = true := (hkt u).mpr ⟨h1, fun e => by
          subst e
          rw [h.2.1, h.2.2.1] at hu; cases hu⟩
        rw [ndf_tb, h2]; simp
      · rw [tb_or2, Bool.or_eq_true, decide_eq_true_eq] at hi
        rcases hi with hi | hi
        · exact ((hkt i).mp hi).1
        · rw [← hi]; exact b
      · rw [tb_or2, Bool.or_eq_true, decide_eq_true_eq]
        by_cases e : v = i
        · exact Or.inr e
        · exact Or.inl ((hkt i).mpr ⟨hi, e⟩)
    · have htk : ∀ i, t.testBit i = true ↔ k.testBit i = true ∨ v = i := fun i => by rw [← d, tb_or2, Bool.or_eq_true, decide_eq_true_eq]
      rw [ndf_tb, all_tb, decide_eq_true hv] at b
      have hvk : k.testBit v = false := by
        cases q : k.testBit v with
        | false => rfl
        | true => rw [q] at b; cases b
      have hbv : Sub (bl v) k := by
        intro u hu
        have := c u hu
        have hun : u < n := tb_lt_of (h.bl_lt v) hu
        rw [ndf_tb, all_tb, decide_eq_true hun] at this
        cases q : k.testBit u with
        | true => rfl
        | false => rw [q] at this; cases this
      refine ⟨fun x hx u hu => ?_, ⟨(htk v).mpr (Or.inr rfl), fun u hu => ?_⟩, Sub.eq (fun i hi => ?_) (fun i hi => ?_)⟩
      · rcases (htk x).mp hx with q | q
        · exact (htk u).mpr (Or.inl (a x q u hu))
        · rw [← q] at hu; exact (htk u).mpr (Or.inl (hbv u hu))
      · cases q : t.testBit u with
        | false => rfl
        | true =>
          rcases (htk u).mp q with z | z
          · have := a u z v (by rw [h.2.1]; exact hu)
            rw [hvk] at this; cases this
          · rw [← z, h.2.2.1] at hu; cases hu
      · rw [clr_tb] at hi
        exact ((htk i).mp hi.1).resolve_right hi.2
      · rw [clr_tb]
        exact ⟨(htk i).mpr (Or.inl hi), fun e => by rw [← e, hvk] at hi; cases hi⟩
  unfold bgN
  by_cases e : t = 0
  · rw [if_pos e, if_pos e]
    have : (if idB bl n k = true then sm (fun v => if mayB bl (ndf (2 ^ n - 1) k) v = true ∧ k ||| 2 ^ v = t then cN ab n k else 0) n else 0) = 0 := by
      split
      · refine sm_0 fun v _ => if_neg fun q => ?_
        have : t.testBit v = true := by rw [← q.2, tb_or2, decide_eq_true rfl, Bool.or_true]
        rw [e, Nat.zero_testBit] at this
        cases this
      · rfl
    rw [this]
  · rw [if_neg e, if_neg e]
    by_cases it : idB bl n t = true
    · rw [if_pos it, if_pos it]
      have e2 : (if idB bl n k = true then sm (fun v => if mayB bl (ndf (2 ^ n - 1) k) v = true ∧ k ||| 2 ^ v = t then cN ab n k else 0) n else 0) = sm (fun v => if mayB ab t v = true ∧ ndf t (2 ^ v) = k then cN ab n k else 0) n := by
        by_cases ik : idB bl n k = true
        · rw [if_pos ik]
          refine sm_congr fun v hv => ?_
          by_cases q : mayB bl (ndf (2 ^ n - 1) k) v = true ∧ k ||| 2 ^ v = t
          · rw [if_pos q, if_pos ((key v hv).mpr ⟨ik, q⟩).2]
          · rw [if_neg q, if_neg (fun z => q ((key v hv).mp ⟨it, z⟩).2)]
        · rw [if_neg ik]
          exact (sm_0 fun v hv => if_neg fun z => ik ((key v hv).mp ⟨it, z⟩).1).symm
      rw [e2, ← sm_add]
      refine sm_congr fun v _ => ?_
      by_cases q : mayB ab t v = true
      · rcases Nat.lt_trichotomy (ndf t (2 ^ v)) k with z | z | z
        · rw [if_pos ⟨q, by omega⟩, if_pos ⟨q, z⟩, if_neg (fun w => by omega), Nat.add_zero]
        · rw [if_pos ⟨q, by omega⟩, if_neg (fun w => by omega), if_pos ⟨q, z⟩, z, Nat.zero_add]
        · rw [if_neg (fun w => by omega), if_neg (fun w => by omega), if_neg (fun w => by omega)]
      · rw [if_neg (fun w => q w.1), if_neg (fun w => q w.1), if_neg (fun w => q w.1)]
    · rw [if_neg it, if_neg it]
      have : (if idB bl n k = true then sm (fun v => if mayB bl (ndf (2 ^ n - 1) k) v = true ∧ k ||| 2 ^ v = t then cN ab n k else 0) n else 0) = 0 := by
        split
        · rename_i ik
          exact sm_0 fun v hv => if_neg fun z => it ((key v hv).mpr ⟨ik, z⟩).1
        · rfl
      rw [this]
theorem cbS_eq (h : Tied n bl ab Lf) (hn : n ≤ 14) : ∀ k, k ≤ 2 ^ n → (∀ t, t < 2 ^ n → (cbS bl n k).1 t = lJ (bgN bl ab n k t)) ∧ (cbS bl n k).2 = idC Lf n k
  | 0, _ => by
    refine ⟨fun t ht => ?_, rfl⟩
    show vp_updL (fun _ => 0) 0 1 t = _
    unfold bgN
    by_cases e : t = 0
    · rw [e, uL_s, if_pos rfl]; rfl
    · rw [uL_n e, if_neg e]
      split
      · rw [sm_0 fun v _ => if_neg fun q => Nat.not_lt_zero _ q.2]; rfl
      · rfl
  | k + 1, hk => by
    obtain ⟨i1, i2⟩ := cbS_eq h hn k (by omega)
    have hval := i1 k (by omega)
    rw [bg_full (Nat.le_refl k)] at hval
    have hid := ideal_eq h (s := k) (by omega)
    unfold cbS idC
    rw [hid]
    by_cases q : idB bl n k = true
    · rw [if_pos q] at hval
      have hne : ¬ (cbS bl n k).1 k = 0 := by
        rw [hval, lJ_0 (cN_big ab hn (by omega))]
        have := cN_pos h.1 k (by omega)
        omega
      rw [if_neg hne, q]
      refine ⟨fun t ht => ?_, by rw [i2]; rfl⟩
      show hoS bl k (ndf (2 ^ n - 1) k) ((cbS bl n k).1 k) (cbS bl n k).1 n t = _
      rw [hval, hoS_eq bl k _ _ (cbS bl n k).1 (bgN bl ab n k) t (i1 t ht) n, bg_step h.1 (by omega) ht, if_pos q]
    · rw [if_neg q] at hval
      rw [if_pos (by rw [hval]; rfl), Bool.eq_false_iff.mpr q]
      refine ⟨fun t ht => ?_, i2⟩
      rw [i1 t ht, bg_step h.1 (by omega) ht, if_neg q, Nat.add_zero]
theorem rBeg_eq (h : Tied n bl ab Lf) (hn : n ≤ 14) {t : Nat} (ht : t < 2 ^ n) : rBeg bl n t = lJ (if idB bl n t = true then cN ab n t else 0) := by
  have := (cbS_eq h hn (2 ^ n) (Nat.le_refl _)).1 t ht
  rw [bg_full (by omega)] at this
  exact this
theorem rIdl_eq (h : Tied n bl ab Lf) (hn : n ≤ 14) : rIdl bl n = idC Lf n (2 ^ n) := (cbS_eq h hn (2 ^ n) (Nat.le_refl _)).2
theorem rBeg_0 (h : Tied n bl ab Lf) (hn : n ≤ 14) {t : Nat} (ht : t < 2 ^ n) : rBeg bl n t = 0 ↔ idB bl n t = false := by
  rw [rBeg_eq h hn ht]
  by_cases q : idB bl n t = true
  · rw [if_pos q, lJ_0 (cN_big ab hn ht), q]
    have := cN_pos h.1 t ht
    exact ⟨fun z => by omega, fun z => by cases z⟩
  · rw [if_neg q, Bool.eq_false_iff.mpr q]
    exact ⟨fun _ => rfl, fun _ => rfl⟩
/-! endings -/
theorem idB_all (h : Ord n bl ab) : idB bl n (2 ^ n - 1) = true := by
  have hp := Nat.two_pow_pos n
  refine (idB_iff (by omega)).mpr fun v _ u hu => ?_
  rw [all_tb]
  exact decide_eq_true (tb_lt_of (h.bl_lt v) hu)
theorem idB_0 : idB bl n 0 = true := (idB_iff (Nat.two_pow_pos n)).mpr fun v hv => by rw [Nat.zero_testBit] at hv; cases hv
/-- a thing that may follow an ideal: what it makes -/
theorem id_next (h : Ord n bl ab) {s v : Nat} (hs : s < 2 ^ n) (hv : v < n) (hi : idB bl n s = true) (hm : mayB bl (ndf (2 ^ n - 1) s) v = true) : idB bl n (s ||| 2 ^ v) = true ∧ s ||| 2 ^ v < 2 ^ n ∧ s < s ||| 2 ^ v ∧ ndf (2 ^ n - 1) (s ||| 2 ^ v) = ndf (ndf (2 ^ n - 1) s) (2 ^ v) := by
  have ht : s ||| 2 ^ v < 2 ^ n := nb_lt_or hs (nb_lt_pow hv)
  obtain ⟨m1, m2⟩ := mayB_iff.mp hm
  have hvs : s.testBit v = false := by
    rw [ndf_tb, all_tb, decide_eq_true hv] at m1
    cases q : s.testBit v with
    | false => rfl
    | true => rw [q] at m1; cases m1
  refine ⟨(idB_iff ht).mpr fun x hx u hu => ?_, ht, ?_, ?_⟩
  · rw [tb_or2, Bool.or_eq_true, decide_eq_true_eq] at hx ⊢
    rcases hx with hx | hx
    · exact Or.inl ((idB_iff hs).mp hi x hx u hu)
    · rw [← hx] at hu
      have := m2 u hu
      rw [ndf_tb, all_tb, decide_eq_true (tb_lt_of (h.bl_lt v) hu)] at this
      cases q : s.testBit u with
      | true => exact Or.inl rfl
      | false => rw [q] at this; cases this
  · have h1 : s ≤ s ||| 2 ^ v := sub_le fun i hi => by rw [tb_or2, hi]; rfl
    have h2 : s ≠ s ||| 2 ^ v := fun e => by
      have : (s ||| 2 ^ v).testBit v = true := by rw [tb_or2, decide_eq_true rfl, Bool.or_true]
      rw [← e, hvs] at this
      cases this
    omega
  · apply Nat.eq_of_testBit_eq
    intro i
    rw [ndf_tb, ndf_tb, ndf_tb, tb_or2, tb_pow]
    cases (2 ^ n - 1).testBit i <;> cases s.testBit i <;> cases decide (v = i) <;> rfl
theorem seS_eq (bl : Nat → Nat) (n s mis : Nat) (E : Nat → Int64) (c : Nat → Nat) (hE : ∀ v, v < n → mayB bl mis v = true → E (s ||| 2 ^ v) = lJ (c v)) : ∀ m, m ≤ n → seS bl s mis E m = lJ (sm (fun v => if mayB bl mis v = true then c v else 0) m)
  | 0, _ => rfl
  | m + 1, hm => by
    unfold seS sm
    rw [seS_eq bl n s mis E c hE m (by omega), ← lJ_add]
    split
    · rename_i q
      rw [hE m (by omega) q]
    · rw [show lJ 0 = 0 from rfl, Int64.add_zero]
theorem ceS_eq (h : Tied n bl ab Lf) (hn : n ≤ 14) (E0 : Nat → Int64) : ∀ m, m ≤ 2 ^ n - 1 → ∀ s, s < 2 ^ n → 2 ^ n - 1 - m ≤ s → idB bl n s = true → ceS bl n (rBeg bl n) E0 m s = lJ (cN bl n (ndf (2 ^ n - 1) s))
  | 0, _, s, hs, h1, _ => by
    have e : s = 2 ^ n - 1 := by omega
    show vp_updL E0 (2 ^ n - 1) 1 s = _
    rw [e, uL_s, ndf_0.mpr (fun _ z => z)]
    rfl
  | m + 1, hm, s, hs, h1, hi => by
    have ih := ceS_eq h hn E0 m (by omega)
    unfold ceS
    rcases Nat.eq_or_lt_of_le h1 with e | e
    · rw [e, if_neg (by rw [rBeg_0 h hn hs, hi]; decide), uL_s]
      rw [seS_eq bl n s (ndf (2 ^ n - 1) s) _ (fun v => cN bl n (ndf (ndf (2 ^ n - 1) s) (2 ^ v))) (fun v hv q => by
        obtain ⟨a, b, c, d⟩ := id_next h.1 hs hv hi q
        rw [ih _ b (by omega) a, d]) n (Nat.le_refl _), cN_rec bl n]
      intro z
      have hp := Nat.two_pow_pos n
      have h2 : 2 ^ n - 1 ≤ s := sub_le (ndf_0.mp z)
      omega
    · split
      · exact ih s hs (by omega) hi
      · rw [uL_n (by omega)]
        exact ih s hs (by omega) hi
theorem rEnd_eq (h : Tied n bl ab Lf) (hn : n ≤ 14) {E : Nat → Int64} (hE : reV bl n E) {s : Nat} (hs : s < 2 ^ n) (hi : idB bl n s = true) : E s = lJ (cN ab n (ndf (2 ^ n - 1) s)) := by
  obtain ⟨E0, rfl⟩ := hE
  have hp := Nat.two_pow_pos n
  rw [ceS_eq h hn E0 (2 ^ n - 1) (Nat.le_refl _) s hs (by omega) hi, cN_two h.1 _ (by have := ndf_le (2 ^ n - 1) s; omega)]
/-- what may stand next -/
def nxN (bl ab : Nat → Nat) (n left v : Nat) : Nat := if mayB bl left v = true then cN ab n (ndf left (2 ^ v)) else 0
theorem follow_iff (h : Ord n bl ab) {p v : Nat} (hv : v < n) : ndf (bl v ||| 2 ^ v) p = 2 ^ v ↔ mayB bl (ndf (2 ^ n - 1) p) v = true := by
  rw [mayB_iff]
  refine ⟨fun e => ?_, fun ⟨m1, m2⟩ => ?_⟩
  · have hb : ∀ i, (ndf (bl v ||| 2 ^ v) p).testBit i = decide (v = i) := fun i => by rw [e, tb_pow]
    have hvp : p.testBit v = false := by
      have := hb v
      rw [ndf_tb, tb_or2, decide_eq_true rfl, Bool.or_true, Bool.true_and] at this
      cases q : p.testBit v with
      | false => rfl
      | true => rw [q] at this; cases this
    refine ⟨by rw [ndf_tb, all_tb, decide_eq_true hv, hvp]; rfl, fun u hu => ?_⟩
    have := hb u
    have hne : v ≠ u := fun z => by rw [← z, h.2.1, h.2.2.1] at hu; cases hu
    rw [ndf_tb, tb_or2, hu, decide_eq_false hne, Bool.true_or, Bool.true_and] at this
    rw [ndf_tb]
    cases q : p.testBit u with
    | true => simp
    | false => rw [q] at this; cases this
  · apply Nat.eq_of_testBit_eq
    intro i
    rw [ndf_tb, tb_or2, tb_pow]
    rw [ndf_tb, all_tb, decide_eq_true hv, Bool.true_and] at m1
    by_cases e : v = i
    · subst e
      rw [decide_eq_true rfl, Bool.or_true, Bool.true_and]
      exact m1
    · rw [decide_eq_false e, Bool.or_false]
      cases q : (bl v).testBit i with
      | false => rfl
      | true =>
        have := m2 i q
        rw [ndf_tb, all_tb, decide_eq_true (tb_lt_of (h.bl_lt v) q)] at this
        cases w : p.testBit i with
        | true => rfl
        | false => rw [w] at this; cases this
theorem rof_eq (h : Tied n bl ab Lf) (hn : n ≤ 14) {E : Nat → Int64} (hE : reV bl n E) {p v : Nat} (hp : p < 2 ^ n) (hi : idB bl n p = true) (hv : v < n) : rof bl E p v = lJ (nxN bl ab n (ndf (2 ^ n - 1) p) v) := by
  unfold rof nxN
  by_cases q : mayB bl (ndf (2 ^ n - 1) p) v = true
  · rw [if_pos ((follow_iff h.1 hv).mpr q), if_pos q]
    obtain ⟨a, b, c, d⟩ := id_next h.1 hp hv hi q
    rw [rEnd_eq h hn hE b a, d]
  · rw [if_neg (fun z => q ((follow_iff h.1 hv).mp z)), if_neg q]
    rfl
end CNU
