/-! CHAINS: the model's search comes to the greedy chain -/
theorem wrU_sm (Lf : Nat → Bool) (s v : Nat) : ∀ k, wrU Lf s v k = sm (fun u => (s.testBit u && Lf (16 * u + v)).toNat) k
  | 0 => rfl
  | k + 1 => by unfold wrU sm; rw [wrU_sm Lf s v k]
theorem wcA_sm (Lf : Nat → Bool) (n s p : Nat) : ∀ k, wcA Lf n s p k = sm (fun v => (s.testBit v && decide (wrU Lf s v n < p)).toNat) k
  | 0 => rfl
  | k + 1 => by unfold wcA sm; rw [wcA_sm Lf n s p k]
section CHN
variable {n : Nat} {bl ab : Nat → Nat} {Lf : Nat → Bool}
def chn (ab : Nat → Nat) (s : Nat) : Prop := ∀ x y, s.testBit x = true → s.testBit y = true → x ≠ y → (ab x).testBit y = true ∨ (ab y).testBit x = true
theorem chn_iff (h : Tied n bl ab Lf) {s : Nat} (hs : s < 2 ^ n) : allB (fun a => allB (pisChain Lf s a) a) n = true ↔ chn ab s := by
  rw [allB_iff]
  refine ⟨fun g x y hx hy hne => ?_, fun g a ha => allB_iff.mpr fun b hb => ?_⟩
  · have key : ∀ x y, s.testBit x = true → s.testBit y = true → y < x → (ab x).testBit y = true ∨ (ab y).testBit x = true := by
      intro x y hx hy hlt
      have hxn := tb_lt_of hs hx
      have := allB_iff.mp (g x hxn) y hlt
      unfold pisChain at this
      rw [hx, hy, h.2 x y hxn (by omega), h.2 y x (by omega) hxn] at this
      simpa using this
    rcases Nat.lt_or_gt_of_ne hne with z | z
    · exact (key y x hy hx z).symm
    · exact key x y hx hy z
  · unfold pisChain
    rw [h.2 a b ha (by omega), h.2 b a (by omega) ha]
    cases h1 : s.testBit a with
    | false => rfl
    | true =>
      cases h2 : s.testBit b with
      | false => rfl
      | true => simpa using g a b h1 h2 (by omega)
theorem wrU_mono (h : Tied n bl ab Lf) {s x y : Nat} (hs : s < 2 ^ n) (hx : s.testBit x = true) (hy : s.testBit y = true) (hr : (ab x).testBit y = true) : wrU Lf s x n < wrU Lf s y n := by
  have hxn := tb_lt_of hs hx
  have hyn := tb_lt_of hs hy
  rw [wrU_sm, wrU_sm]
  have h1 : sm (fun u => (s.testBit u && Lf (16 * u + x)).toNat + (if u = x then 1 else 0)) n ≤ sm (fun u => (s.testBit u && Lf (16 * u + y)).toNat) n := by
    refine sm_le fun u hu => ?_
    rw [h.2 u x hu hxn, h.2 u y hu hyn]
    by_cases e : u = x
    · rw [if_pos e, e, hx, hr, h.1.2.2.1 x]; decide
    · rw [if_neg e]
      cases q : (ab u).testBit x with
      | false => simp
      | true => rw [h.1.2.2.2 u x y q hr]; exact Nat.le_refl _
  rw [sm_add, sm_one (k := x) hxn (fun i _ hne => if_neg hne), if_pos rfl] at h1
  exact h1
theorem wrU_r (h : Tied n bl ab Lf) {s x y : Nat} (hs : s < 2 ^ n) (hc : chn ab s) (hx : s.testBit x = true) (hy : s.testBit y = true) (hu : wrU Lf s x n < wrU Lf s y n) : (ab x).testBit y = true := by
  rcases hc x y hx hy (fun e => by rw [e] at hu; omega) with z | z
  · exact z
  · have := wrU_mono h hs hy hx z; omega
theorem wrU_ltn (h : Tied n bl ab Lf) {s v : Nat} (hv : v < n) : wrU Lf s v n < n := by
  rw [wrU_sm]
  have h1 : sm (fun u => (s.testBit u && Lf (16 * u + v)).toNat + (if u = v then 1 else 0)) n ≤ sm (fun _ => 1) n := by
    refine sm_le fun u hu => ?_
    by_cases e : u = v
    · rw [if_pos e, e, h.2 v v hv hv, h.1.2.2.1 v, Bool.and_false]; decide
    · rw [if_neg e]
      cases (s.testBit u && Lf (16 * u + v)) <;> decide
  have h2 : ∀ m, sm (fun _ => 1) m = m := by
    intro m
    induction m with
    | zero => rfl
    | succ m ih => show sm (fun _ => 1) m + 1 = _; rw [ih]
  rw [sm_add, sm_one (k := v) hv (fun i _ hne => if_neg hne), if_pos rfl, h2] at h1
  exact h1
theorem wr_len (h : Tied n bl ab Lf) {s : Nat} (w : Nat → Int32) : (wrR Lf n s w n).2 = npc n s := by
  rw [wrR_n, wcA_sm, npc_sm]
  refine sm_congr fun v hv => ?_
  rw [decide_eq_true (wrU_ltn h hv), Bool.and_true]
/-- what is written of a chain is the chain, from below -/
theorem wr_asc (h : Tied n bl ab Lf) {s : Nat} (hs : s < 2 ^ n) (hc : chn ab s) (w : Nat → Int32) : ∃ e : Nat → Nat, asc ab n e (wrR Lf n s w n).2 ∧ ∀ i, i < (wrR Lf n s w n).2 → (wrR Lf n s w n).1 i = nI (e i) ∧ s.testBit (e i) = true := by
  have inner : ∀ p (τ : (Nat → Int32) × Nat) (e : Nat → Nat), (∀ i, i < τ.2 → τ.1 i = nI (e i) ∧ s.testBit (e i) = true ∧ wrU Lf s (e i) n < p) → (∀ i j, i < j → j < τ.2 → (ab (e i)).testBit (e j) = true) → ∀ v, ∃ e' : Nat → Nat, (∀ i, i < (wrV Lf n s p τ v).2 → (wrV Lf n s p τ v).1 i = nI (e' i) ∧ s.testBit (e' i) = true ∧ (wrU Lf s (e' i) n < p ∨ wrU Lf s (e' i) n = p ∧ e' i < v)) ∧ ∀ i j, i < j → j < (wrV Lf n s p τ v).2 → (ab (e' i)).testBit (e' j) = true := by
    intro p τ e h1 h2 v
    induction v with
    | zero => exact ⟨e, fun i hi => ⟨(h1 i hi).1, (h1 i hi).2.1, Or.inl (h1 i hi).2.2⟩, h2⟩
    | succ v ih =>
      obtain ⟨e', g1, g2⟩ := ih
      unfold wrV
      by_cases q : (s.testBit v && decide (wrU Lf s v n = p)) = true
      · rw [if_pos q]
        rw [Bool.and_eq_true, decide_eq_true_eq] at q
        generalize wrV Lf n s p τ v = ρ at g1 g2 ⊢
        refine ⟨fun i => if i = ρ.2 then v else e' i, fun i hi => ?_, fun i j hij hj => ?_⟩
        · have hi : i < ρ.2 + 1 := hi
          show upd ρ.1 ρ.2 (nI v) i = nI (if i = ρ.2 then v else e' i) ∧ s.testBit (if i = ρ.2 then v else e' i) = true ∧ (wrU Lf s (if i = ρ.2 then v else e' i) n < p ∨ wrU Lf s (if i = ρ.2 then v else e' i) n = p ∧ (if i = ρ.2 then v else e' i) < v + 1)
          by_cases ei : i = ρ.2
          · rw [if_pos ei]
            refine ⟨?_, q.1, Or.inr ⟨q.2, Nat.lt_succ_self v⟩⟩
            show upd ρ.1 ρ.2 (nI v) i = nI v
            rw [ei, pk_us]
          · rw [if_neg ei]
            obtain ⟨a, b, c⟩ := g1 i (by omega)
            refine ⟨?_, b, c.imp id (fun z => ⟨z.1, by omega⟩)⟩
            show upd ρ.1 ρ.2 (nI v) i = _
            rw [pk_un ei]
            exact a
        · have hj : j < ρ.2 + 1 := hj
          show (ab (if i = ρ.2 then v else e' i)).testBit (if j = ρ.2 then v else e' j) = true
          rw [if_neg (show i ≠ ρ.2 by omega)]
          by_cases ej : j = ρ.2
          · rw [if_pos ej]
            obtain ⟨a, b, c⟩ := g1 i (by omega)
            refine wrU_r h hs hc b q.1 ?_
            rcases c with c | c
            · rw [q.2]; exact c
            · exfalso
              rcases hc (e' i) v b q.1 (by omega) with z | z
              · have := wrU_mono h hs b q.1 z; omega
              · have := wrU_mono h hs q.1 b z; omega
          · rw [if_neg ej]
            exact g2 i j hij (by omega)
      · rw [if_neg q]
        exact ⟨e', fun i hi => by
          obtain ⟨a, b, c⟩ := g1 i hi
          exact ⟨a, b, c.imp id (fun z => ⟨z.1, by omega⟩)⟩, g2⟩
  have outer : ∀ p, ∃ e : Nat → Nat, (∀ i, i < (wrR Lf n s w p).2 → (wrR Lf n s w p).1 i = nI (e i) ∧ s.testBit (e i) = true ∧ wrU Lf s (e i) n < p) ∧ ∀ i j, i < j → j < (wrR Lf n s w p).2 → (ab (e i)).testBit (e j) = true := by
    intro p
    induction p with
    | zero => exact ⟨fun _ => 0, fun i hi => absurd hi (Nat.not_lt_zero _), fun i j _ hj => absurd hj (Nat.not_lt_zero _)⟩
    | succ p ih =>
      obtain ⟨e, h1, h2⟩ := ih
      obtain ⟨e', g1, g2⟩ := inner p (wrR Lf n s w p) e h1 h2 n
      refine ⟨e', fun i hi => ?_, g2⟩
      obtain ⟨a, b, c⟩ := g1 i hi
      exact ⟨a, b, by rcases c with c | c <;> omega⟩
  obtain ⟨e, h1, h2⟩ := outer n
  exact ⟨e, ⟨fun i hi => tb_lt_of hs (h1 i hi).2.1, h2⟩, fun i hi => ⟨(h1 i hi).1, (h1 i hi).2.1⟩⟩
/-! along two rows -/
theorem msF_ok (l b : Nat → Int32) : ∀ m i, (∀ j, i ≤ j → j < msF l b m i → l j = b j) ∧ (msF l b m i < i + m → l (msF l b m i) ≠ b (msF l b m i)) ∧ i ≤ msF l b m i ∧ msF l b m i ≤ i + m
  | 0, i => ⟨fun j h1 h2 => absurd h2 (by show ¬ j < i; omega), fun h => absurd h (by show ¬ i < i + 0; omega), Nat.le_refl _, Nat.le_refl _⟩
  | m + 1, i => by
    unfold msF
    by_cases q : l i = b i
    · rw [if_pos q]
      obtain ⟨a, b', c, d⟩ := msF_ok l b m (i + 1)
      refine ⟨fun j h1 h2 => ?_, fun z => b' (by omega), by omega, by omega⟩
      rcases Nat.eq_or_lt_of_le h1 with e | e
      · rw [← e]; exact q
      · exact a j e h2
    · rw [if_neg q]
      exact ⟨fun j h1 h2 => by omega, fun _ => q, Nat.le_refl _, by omega⟩
/-- the set of the greedy chain -/
def gst (ab : Nat → Nat) (n : Nat) : Nat → Nat
  | 0 => 0
  | k + 1 => gst ab n k ||| 2 ^ cth ab n k
theorem gst_tb (ab : Nat → Nat) (n v : Nat) : ∀ k, (gst ab n k).testBit v = true ↔ ∃ i, i < k ∧ cth ab n i = v
  | 0 => by
    show (0 : Nat).testBit v = true ↔ _
    rw [Nat.zero_testBit]
    exact ⟨(fun h => by cases h), (fun ⟨i, hi, _⟩ => absurd hi (Nat.not_lt_zero _))⟩
  | k + 1 => by
    unfold gst
    rw [tb_or2, Bool.or_eq_true, decide_eq_true_eq, gst_tb ab n v k]
    refine ⟨fun z => ?_, fun ⟨i, hi, e⟩ => ?_⟩
    · rcases z with ⟨i, hi, e⟩ | e
      · exact ⟨i, by omega, e⟩
      · exact ⟨k, Nat.lt_succ_self k, e⟩
    · rcases Nat.eq_or_lt_of_le (Nat.le_of_lt_succ hi) with q | q
      · rw [q] at e; exact Or.inr e
      · exact Or.inl ⟨i, q, e⟩
theorem gst_npc (h : Ord n bl ab) (hn : n ≤ 14) : ∀ k, k ≤ plen ab n → npc n (gst ab n k) = k
  | 0, _ => by
    rw [npc_sm]
    exact sm_0 fun i _ => by show ((0 : Nat).testBit i).toNat = 0; rw [Nat.zero_testBit]; rfl
  | k + 1, hk => by
    have ih := gst_npc h hn k (by omega)
    have hlt := (cth_ok h hn k (by omega)).2.1
    have hnew : (gst ab n k).testBit (cth ab n k) = false := by
      cases q : (gst ab n k).testBit (cth ab n k) with
      | false => rfl
      | true =>
        obtain ⟨i, hi, e⟩ := (gst_tb ab n _ k).mp q
        have := (cth_asc h hn).2 i k hi (by omega)
        rw [e, h.2.2.1] at this
        cases this
    have hset : (gst ab n (k + 1)).testBit (cth ab n k) = true := (gst_tb ab n _ (k + 1)).mpr ⟨k, Nat.lt_succ_self k, rfl⟩
    have e : ndf (gst ab n (k + 1)) (2 ^ cth ab n k) = gst ab n k := by
      refine Sub.eq (fun i hi => ?_) (fun i hi => ?_)
      · rw [clr_tb] at hi
        have h1 := hi.1
        unfold gst at h1
        rw [tb_or2, Bool.or_eq_true, decide_eq_true_eq] at h1
        exact h1.resolve_right hi.2
      · rw [clr_tb]
        refine ⟨by unfold gst; rw [tb_or2, hi]; rfl, fun e => by rw [← e, hnew] at hi; cases hi⟩
    rw [npc_clr hlt hset, e, ih]
theorem gst_lt (h : Ord n bl ab) (hn : n ≤ 14) : gst ab n (plen ab n) < 2 ^ n := tb_lt fun v hv => by
  obtain ⟨i, hi, e⟩ := (gst_tb ab n v _).mp hv
  rw [← e]
  exact (cth_ok h hn i hi).2.1
theorem gst_chn (h : Ord n bl ab) (hn : n ≤ 14) : chn ab (gst ab n (plen ab n)) := by
  intro x y hx hy hne
  obtain ⟨i, hi, rfl⟩ := (gst_tb ab n x _).mp hx
  obtain ⟨j, hj, rfl⟩ := (gst_tb ab n y _).mp hy
  have A := cth_asc h hn
  rcases Nat.lt_trichotomy i j with z | z | z
  · exact Or.inl (A.2 i j z hj)
  · exact absurd (by rw [z]) hne
  · exact Or.inr (A.2 j i z hi)
theorem zh_ok (h : Tied n bl ab Lf) (h1 : 1 ≤ n) (hn : n ≤ 14) (l0 b0 : Nat → Int32) : ∀ k, k ≤ 2 ^ n - 1 → (zhF Lf n l0 b0 k).1 ≤ plen ab n ∧ (∃ e, asc ab n e (zhF Lf n l0 b0 k).1 ∧ ∀ i, i < (zhF Lf n l0 b0 k).1 → (zhF Lf n l0 b0 k).2.2 i = nI (e i)) ∧ (gst ab n (plen ab n) ≤ k → (zhF Lf n l0 b0 k).1 = plen ab n ∧ ∀ i, i < plen ab n → (zhF Lf n l0 b0 k).2.2 i = nI (cth ab n i))
  | 0, _ => by
    refine ⟨Nat.zero_le _, ⟨fun _ => 0, ⟨fun i hi => absurd hi (Nat.not_lt_zero _), fun i j _ hj => absurd hj (Nat.not_lt_zero _)⟩, fun i hi => absurd hi (Nat.not_lt_zero _)⟩, fun hg => ?_⟩
    have h2 := gst_npc h.1 hn (plen ab n) (Nat.le_refl _)
    have h3 := plen_pos h.1 h1 hn
    rw [show gst ab n (plen ab n) = 0 by omega, npc_sm, sm_0 (fun i _ => by rw [Nat.zero_testBit]; rfl)] at h2
    omega
  | k + 1, hk => by
    obtain ⟨i1, ⟨e0, i2, i3⟩, i4⟩ := zh_ok h h1 hn l0 b0 k (by omega)
    have hs : k + 1 < 2 ^ n := by omega
    have hpl := (plen_ok h.1 hn).2.2
    have hG := gst_npc h.1 hn (plen ab n) (Nat.le_refl _)
    have hpc : npc 31 (k + 1) = npc n (k + 1) := npc_eq hs (by omega) (Nat.le_refl n)
    show (zhN Lf n (k + 1) (zhF Lf n l0 b0 k)).1 ≤ _ ∧ (∃ e, asc ab n e (zhN Lf n (k + 1) (zhF Lf n l0 b0 k)).1 ∧ ∀ i, i < (zhN Lf n (k + 1) (zhF Lf n l0 b0 k)).1 → (zhN Lf n (k + 1) (zhF Lf n l0 b0 k)).2.2 i = nI (e i)) ∧ (_ → (zhN Lf n (k + 1) (zhF Lf n l0 b0 k)).1 = _ ∧ ∀ i, i < plen ab n → (zhN Lf n (k + 1) (zhF Lf n l0 b0 k)).2.2 i = _)
    generalize zhF Lf n l0 b0 k = σ at i1 i2 i3 i4 ⊢
    unfold zhN
    have hcc := chn_iff h hs
    by_cases q : σ.1 ≤ npc n (k + 1) ∧ chn ab (k + 1)
    · rw [if_pos ⟨by rw [hpc]; exact q.1, hcc.mpr q.2⟩]
      obtain ⟨e, a1, a2⟩ := wr_asc h hs q.2 σ.2.1
      have hlen := wr_len h (s := k + 1) σ.2.1
      generalize wrR Lf n (k + 1) σ.2.1 n = w at a1 a2 hlen ⊢
      have hw := (asc_lay h.1 hn a1).1
      -- two chains of full length, the greedy one among them
      have cmp : ∀ (e1 : Nat → Nat) (r1 r2 : Nat → Int32), asc ab n e1 (plen ab n) → (∀ i, i < plen ab n → r1 i = nI (e1 i)) → (∀ i, i < plen ab n → r2 i = nI (cth ab n i)) → ¬ lexB r1 r2 (plen ab n) = true ∧ (lexB r2 r1 (plen ab n) = true ∨ ∀ i, i < plen ab n → r1 i = r2 i) := by
        intro e1 r1 r2 hasc hr1 hr2
        have ce : ∀ i, i < plen ab n → (r1 i = r2 i ↔ e1 i = cth ab n i) := by
          intro i hi
          rw [hr1 i hi, hr2 i hi, nb_inj (by have := hasc.1 i hi; omega) (by have := (cth_ok h.1 hn i hi).2.1; omega)]
        have lt : ∀ m, m < plen ab n → (∀ i, i < m → r1 i = r2 i) → r1 m ≠ r2 m → r2 m < r1 m := by
          intro m hm hpre hne
          have := cth_least h.1 hn hasc hm (fun i hi => (ce i (by omega)).mp (hpre i hi)) (fun z => hne ((ce m hm).mpr z))
          rw [hr1 m hm, hr2 m hm]
          exact nI_lt this (by have := hasc.1 m hm; omega)
        refine ⟨fun z => ?_, ?_⟩
        · unfold lexB at z
          rw [Bool.and_eq_true, decide_eq_true_eq, decide_eq_true_eq] at z
          obtain ⟨m1, m2, m3, m4⟩ := msF_ok r1 r2 (plen ab n) 0
          have := lt _ z.1 (fun i hi => m1 i (Nat.zero_le _) hi) (m2 (by omega))
          exact absurd (Int32.lt_trans z.2 this) (Int32.lt_irrefl)
        · obtain ⟨m1, m2, m3, m4⟩ := msF_ok r2 r1 (plen ab n) 0
          rcases Nat.lt_or_ge (msF r2 r1 (plen ab n) 0) (plen ab n) with z | z
          · refine Or.inl ?_
            unfold lexB
            rw [decide_eq_true z, decide_eq_true (lt _ z (fun i hi => (m1 i (Nat.zero_le _) hi).symm) (fun y => m2 (by omega) y.symm))]
            rfl
          · exact Or.inr fun i hi => (m1 i (Nat.zero_le _) (by omega)).symm
      -- the greedy chain's own set is written as the greedy chain
      have own : gst ab n (plen ab n) = k + 1 → w.2 = plen ab n ∧ ∀ i, i < plen ab n → w.1 i = nI (cth ab n i) := by
        intro hg
        have hw2 : w.2 = plen ab n := by rw [hlen, ← hg, hG]
        refine ⟨hw2, fun i hi => ?_⟩
        obtain ⟨b1, b2⟩ := a2 i (by omega)
        rw [← hg] at b2
        obtain ⟨j, hj, ej⟩ := (gst_tb ab n _ _).mp b2
        have l1 := (asc_lay h.1 hn a1).2 hw2 i (by omega)
        have l2 := (cth_ok h.1 hn j hj).1
        rw [ej] at l2
        have := lay_eq l1 l2
        rw [b1, ← ej, show j = i by omega]
      by_cases q2 : (decide (σ.1 < w.2) || lexB w.1 σ.2.2 w.2) = true
      · rw [if_pos q2]
        have hcp : ∀ i, i < w.2 → cpS w.1 σ.2.2 w.2 i = w.1 i := fun i hi => if_pos hi
        refine ⟨hw, ⟨e, a1, fun i hi => ?_⟩, fun hg => ?_⟩
        · show cpS w.1 σ.2.2 w.2 i = _
          rw [hcp i hi]
          exact (a2 i hi).1
        · show w.2 = _ ∧ ∀ i, i < plen ab n → cpS w.1 σ.2.2 w.2 i = _
          rcases Nat.eq_or_lt_of_le hg with z | z
          · obtain ⟨o1, o2⟩ := own z
            exact ⟨o1, fun i hi => by rw [hcp i (by omega)]; exact o2 i hi⟩
          · obtain ⟨p1, p2⟩ := i4 (by omega)
            have hw2 : w.2 = plen ab n := by omega
            exfalso
            rw [decide_eq_false (by omega), Bool.false_or, hw2] at q2
            rw [hw2] at a1
            exact (cmp e w.1 σ.2.2 a1 (fun i hi => (a2 i (by omega)).1) p2).1 q2
      · rw [if_neg q2]
        refine ⟨i1, ⟨e0, i2, i3⟩, fun hg => ?_⟩
        show σ.1 = _ ∧ ∀ i, i < plen ab n → σ.2.2 i = _
        rcases Nat.eq_or_lt_of_le hg with z | z
        · obtain ⟨o1, o2⟩ := own z
          rw [Bool.or_eq_true, decide_eq_true_eq] at q2
          have hl : σ.1 = plen ab n := by
            have : ¬ σ.1 < w.2 := fun y => q2 (Or.inl y)
            omega
          refine ⟨hl, fun i hi => ?_⟩
          rw [hl] at i2 i3
          rcases (cmp e0 σ.2.2 w.1 i2 i3 o2).2 with y | y
          · exact absurd (Or.inr (by rw [o1]; exact y)) q2
          · rw [y i hi]; exact o2 i hi
        · exact i4 (by omega)
    · rw [if_neg (fun z => q ⟨by rw [← hpc]; exact z.1, hcc.mp z.2⟩)]
      refine ⟨i1, ⟨e0, i2, i3⟩, fun hg => ?_⟩
      rcases Nat.eq_or_lt_of_le hg with z | z
      · exact absurd ⟨by rw [← z, hG]; exact i1, by rw [← z]; exact gst_chn h.1 hn⟩ q
      · exact i4 (by omega)
theorem chain_eq (h : Tied n bl ab Lf) (h1 : 1 ≤ n) (hn : n ≤ 14) (l0 b0 : Nat → Int32) : (zhF Lf n l0 b0 (2 ^ n - 1)).1 = plen ab n ∧ ∀ i, i < plen ab n → (zhF Lf n l0 b0 (2 ^ n - 1)).2.2 i = nI (cth ab n i) := by
  have hg := gst_lt h.1 hn
  exact (zh_ok h h1 hn l0 b0 (2 ^ n - 1) (Nat.le_refl _)).2.2 (by omega)
end CHN
