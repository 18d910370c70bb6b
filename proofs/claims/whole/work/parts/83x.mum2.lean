/-! MU: of cuts, of things -/
theorem gS_none {b : Nat → Bool} {dn : Nat → Nat} : ∀ T, (∀ x, x < T → b x = false) → (gS b dn T).2 = 0
  | 0, _ => rfl
  | T + 1, h => by
    unfold gS
    rw [if_neg (by rw [h T (Nat.lt_succ_self T)]; decide)]
    exact gS_none T (fun x hx => h x (Nat.lt_succ_of_lt hx))
theorem mcS_gS (bl ab : Nat → Nat) (n lo hi i : Nat) : ∀ T, mcS bl ab n lo hi i T = gS (fun t => decide (ndf lo (cutv bl ab n (i + t)) = 0 ∧ ndf (cutv bl ab n (i + t)) hi = 0)) (fun t => cutv bl ab n (i + t)) T
  | 0 => rfl
  | T + 1 => by
    unfold mcS gS
    rw [mcS_gS bl ab n lo hi i T]
    simp only [decide_eq_true_eq]
theorem mqS_gS (bl : Nat → Nat) (bt : Nat) : ∀ T, mqS bl bt T = gS (fun t => bt.testBit t) (fun t => bl t ||| 2 ^ t) T
  | 0 => rfl
  | T + 1 => by
    unfold mqS gS
    rw [mqS_gS bl bt T]
theorem mcY_sI (cv : Nat → Nat) (i x : Nat) (M : Nat → Int32) : ∀ m, mcY cv i x M m = (if x = i then 1 else 0) - sI (fun y => if mcT cv i (i + y) x = true then M (i + y) else 0) m
  | 0 => by
    show _ = _ - (0 : Int32)
    rw [Int32.sub_zero]
    rfl
  | m + 1 => by
    unfold mcY sI
    rw [mcY_sI cv i x M m]
    generalize (if x = i then (1 : Int32) else 0) = a
    generalize sI _ m = b
    generalize (if mcT cv i (i + m) x = true then M (i + m) else 0) = c
    rw [Int32.sub_eq_add_neg, Int32.sub_eq_add_neg, Int32.sub_eq_add_neg, Int32.neg_add, Int32.sub_eq_add_neg, Int32.add_assoc]
theorem mcX_low (cv : Nat → Nat) (i l : Nat) (μ : Nat → Int32) (d : Nat) : ∀ e, mcX cv i l μ (d + 1 + e) (i + d) = mcX cv i l μ (d + 1) (i + d)
  | 0 => rfl
  | e + 1 => by
    show upd (mcX cv i l μ (d + 1 + e)) (i + (d + 1 + e)) _ (i + d) = _
    rw [pk_un (by omega), mcX_low cv i l μ d e]
theorem mcX_at (cv : Nat → Nat) (i l : Nat) (μ : Nat → Int32) {d D : Nat} (h : d < D) (hb : mcT cv i (i + d) l = true) : mcX cv i l μ D (i + d) = (if d = 0 then 1 else 0) - sI (fun y => if mcT cv i (i + y) (i + d) = true then mcX cv i l μ D (i + y) else 0) d := by
  have low : ∀ y, y < D → mcX cv i l μ D (i + y) = mcX cv i l μ (y + 1) (i + y) := by
    intro y hy
    obtain ⟨e, rfl⟩ : ∃ e, D = y + 1 + e := ⟨D - (y + 1), by omega⟩
    exact mcX_low cv i l μ y e
  have low2 : ∀ y, y < d → mcX cv i l μ D (i + y) = mcX cv i l μ d (i + y) := by
    intro y hy
    rw [low y (by omega)]
    obtain ⟨e, rfl⟩ : ∃ e, d = y + 1 + e := ⟨d - (y + 1), by omega⟩
    exact (mcX_low cv i l μ y e).symm
  rw [low d h]
  show upd (mcX cv i l μ d) (i + d) _ (i + d) = _
  rw [pk_us, if_pos hb, mcY_sI]
  congr 1
  · by_cases e : d = 0
    · rw [if_pos e, if_pos (by omega)]
    · rw [if_neg e, if_neg (by omega)]
  · refine sI_congr fun y hy => ?_
    rw [low2 y hy]
section MUM
variable {n : Nat} {bl ab : Nat → Nat} {Lf : Nat → Bool}
theorem muc_0 {i j : Nat} (hd : ndf (cutv bl ab n i) (cutv bl ab n j) ≠ 0) (T : Nat) : muR (mcS bl ab n (cutv bl ab n i) (cutv bl ab n j) i T).1 (mcS bl ab n (cutv bl ab n i) (cutv bl ab n j) i T).2 = 0 := by
  rw [mcS_gS]
  have e := gS_none (b := fun t => decide (ndf (cutv bl ab n i) (cutv bl ab n (i + t)) = 0 ∧ ndf (cutv bl ab n (i + t)) (cutv bl ab n j) = 0)) (dn := fun t => cutv bl ab n (i + t)) T (fun x _ => by
    refine decide_eq_false fun q => hd ?_
    rw [ndf_0] at q ⊢
    exact fun k hk => ndf_0.mp q.2 k (q.1 k hk))
  unfold muR
  rw [if_pos e]
theorem muc_eq (h : Tied n bl ab Lf) {i j : Nat} (hi : i ≤ cstop bl ab n) (hj : j ≤ cstop bl ab n) (hd : ndf (cutv bl ab n i) (cutv bl ab n j) = 0) (μ : Nat → Int32) : i ≤ j ∧ muR (mcS bl ab n (cutv bl ab n i) (cutv bl ab n j) i (j + 1 - i)).1 (mcS bl ab n (cutv bl ab n i) (cutv bl ab n j) i (j + 1 - i)).2 = mcX (mcV Lf n) i j μ (j + 1 - i) j := by
  have L := cut_L h
  obtain ⟨_, hv, _⟩ := cut_list h
  have hij : i ≤ j := L.le (by omega) (by omega) (sub_le (ndf_0.mp hd))
  refine ⟨hij, ?_⟩
  have hT : ∀ y x, i + y ≤ cstop bl ab n → x ≤ cstop bl ab n → (mcT (mcV Lf n) i (i + y) x = true ↔ ndf (cutv bl ab n i) (cutv bl ab n (i + y)) = 0 ∧ ndf (cutv bl ab n (i + y)) (cutv bl ab n x) = 0) := by
    intro y x hy hx
    unfold mcT
    rw [Bool.and_eq_true, decide_eq_true_eq, decide_eq_true_eq, hv i hi, hv _ hy, hv _ hx]
  rw [mcS_gS]
  have hz : i + (j - i) = j := by omega
  have := muR_spec (b := fun t => decide (ndf (cutv bl ab n i) (cutv bl ab n (i + t)) = 0 ∧ ndf (cutv bl ab n (i + t)) (cutv bl ab n j) = 0)) (dn := fun t => cutv bl ab n (i + t)) (T := j + 1 - i) (C := fun t => mcX (mcV Lf n) i j μ (j + 1 - i) (i + t)) (a := 0) (z := j - i)
    (fun x y hx hy _ _ e => by have := L.inj (i := i + x) (j := i + y) (by omega) (by omega) e; omega)
    ⟨by omega, decide_eq_true ⟨by rw [ndf_0]; exact fun _ z => z, hd⟩⟩ ⟨by omega, decide_eq_true (by rw [hz]; exact ⟨hd, by rw [ndf_0]; exact fun _ z => z⟩)⟩
    (fun x hx hb => ndf_0.mp (of_decide_eq_true hb).1) (fun x hx hb => by rw [hz]; exact ndf_0.mp (of_decide_eq_true hb).2)
    (fun x hx hb => by
      have hb := of_decide_eq_true hb
      show mcX (mcV Lf n) i j μ (j + 1 - i) (i + x) = _
      rw [mcX_at (mcV Lf n) i j μ hx ((hT x j (by omega) hj).mpr hb)]
      have es : sI (fun y => if mcT (mcV Lf n) i (i + y) (i + x) = true then mcX (mcV Lf n) i j μ (j + 1 - i) (i + y) else 0) x = sI (fun y => if decide (ndf (cutv bl ab n i) (cutv bl ab n (i + y)) = 0 ∧ ndf (cutv bl ab n (i + y)) (cutv bl ab n j) = 0) = true ∧ ndf (cutv bl ab n (i + y)) (cutv bl ab n (i + x)) = 0 ∧ y ≠ x then mcX (mcV Lf n) i j μ (j + 1 - i) (i + y) else 0) (x + (j + 1 - i - x)) := by
        rw [sI_cut (k := x) (j + 1 - i - x) (fun y h1 h2 => if_neg fun q => by
          have a := sub_le (ndf_0.mp q.2.1)
          have b := L.le (i := i + y) (j := i + x) (by omega) (by omega) a
          omega)]
        refine sI_congr fun y hy => ?_
        by_cases q : mcT (mcV Lf n) i (i + y) (i + x) = true
        · have q2 := (hT y (i + x) (by omega) (by omega)).mp q
          rw [if_pos q, if_pos ⟨decide_eq_true ⟨q2.1, ndf_0.mpr fun k hk => ndf_0.mp hb.2 k (ndf_0.mp q2.2 k hk)⟩, q2.2, by omega⟩]
        · rw [if_neg q, if_neg]
          intro w
          exact q ((hT y (i + x) (by omega) (by omega)).mpr ⟨(of_decide_eq_true w.1).1, w.2.1⟩)
      rw [es, show x + (j + 1 - i - x) = j + 1 - i by omega]
      by_cases e : x = 0
      · rw [if_pos e, if_pos e]
        have : sI (fun y => if decide (ndf (cutv bl ab n i) (cutv bl ab n (i + y)) = 0 ∧ ndf (cutv bl ab n (i + y)) (cutv bl ab n j) = 0) = true ∧ ndf (cutv bl ab n (i + y)) (cutv bl ab n (i + x)) = 0 ∧ y ≠ x then mcX (mcV Lf n) i j μ (j + 1 - i) (i + y) else 0) (j + 1 - i) = 0 := by
          refine sI_0 fun y hy => if_neg fun q => ?_
          have a := sub_le (ndf_0.mp q.2.1)
          have b := L.le (i := i + y) (j := i + x) (by omega) (by omega) a
          omega
        rw [this, Int32.sub_zero]
      · rw [if_neg e, if_neg e, Int32.zero_sub])
  rw [this]
  show mcX (mcV Lf n) i j μ (j + 1 - i) (i + (j - i)) = _
  rw [hz]
/-! of things -/
theorem quS_sI (Lf : Nat → Bool) (a x : Nat) (M : Nat → Int32) : ∀ k, quS Lf a x M k = (if x = a then -1 else 0) + sI (fun y => if quB Lf a x y = true then M y else 0) k
  | 0 => by
    show _ = _ + (0 : Int32)
    rw [Int32.add_zero]
    rfl
  | k + 1 => by
    unfold quS sI
    rw [quS_sI Lf a x M k, Int32.add_assoc]
theorem quX_other (Lf : Nat → Bool) (n a h : Nat) (M : Nat → Int32) (y : Nat) (hy : ((decide (y = a) || Lf (16 * a + y)) && decide (quU Lf a y n = h)) = false) : ∀ k, quX Lf n a h M k y = M y
  | 0 => rfl
  | k + 1 => by
    have ih := quX_other Lf n a h M y hy k
    unfold quX
    split
    · rename_i hc
      by_cases e : y = k
      · subst e; rw [hy] at hc; cases hc
      · rw [pk_un e, ih]
    · exact ih
theorem quX_at (Lf : Nat → Bool) (n a h : Nat) (M : Nat → Int32) (x : Nat) (hx : ((decide (x = a) || Lf (16 * a + x)) && decide (quU Lf a x n = h)) = true) : ∀ d, quX Lf n a h M (x + 1 + d) x = -(quS Lf a x (quX Lf n a h M x) n)
  | 0 => by
    show quX Lf n a h M (x + 1) x = _
    rw [quX, if_pos hx, pk_us]
  | d + 1 => by
    have ih := quX_at Lf n a h M x hx d
    have e : quX Lf n a h M (x + 1 + (d + 1)) = if ((decide (x + 1 + d = a) || Lf (16 * a + (x + 1 + d))) && decide (quU Lf a (x + 1 + d) n = h)) = true then upd (quX Lf n a h M (x + 1 + d)) (x + 1 + d) (-(quS Lf a (x + 1 + d) (quX Lf n a h M (x + 1 + d)) n)) else quX Lf n a h M (x + 1 + d) := rfl
    rw [e]
    split
    · rw [pk_un (by omega), ih]
    · exact ih
theorem quX_ne (Lf : Nat → Bool) (n a h : Nat) (M : Nat → Int32) (y : Nat) (hy : quU Lf a y n ≠ h) (k : Nat) : quX Lf n a h M k y = M y := quX_other Lf n a h M y (by rw [decide_eq_false hy, Bool.and_false]) k
theorem quH_stay (Lf : Nat → Bool) (n a : Nat) (μ : Nat → Int32) (y : Nat) : ∀ d, quH Lf n a μ (quU Lf a y n + 1 + d) y = quH Lf n a μ (quU Lf a y n + 1) y
  | 0 => rfl
  | d + 1 => by
    show quX Lf n a (quU Lf a y n + 1 + d) (quH Lf n a μ (quU Lf a y n + 1 + d)) n y = _
    rw [quX_ne Lf n a _ _ y (by omega), quH_stay Lf n a μ y d]
theorem quU_sm (Lf : Nat → Bool) (a x : Nat) : ∀ k, quU Lf a x k = sm (fun y => (quB Lf a x y).toNat) k
  | 0 => rfl
  | k + 1 => by unfold quU sm; rw [quU_sm Lf a x k]
theorem quB_iff (h : Tied n bl ab Lf) {a x y : Nat} (ha : a < n) (hx : x < n) (hy : y < n) : quB Lf a x y = true ↔ (y = a ∨ (ab a).testBit y = true) ∧ (ab y).testBit x = true := by
  unfold quB
  rw [h.2 a y ha hy, h.2 y x hy hx, Bool.and_eq_true, Bool.or_eq_true, decide_eq_true_eq]
theorem quU_lt (h : Tied n bl ab Lf) {a x y : Nat} (ha : a < n) (hx : x < n) (hy : y < n) (hb : quB Lf a x y = true) : quU Lf a y n < quU Lf a x n := by
  have hb2 := (quB_iff h ha hx hy).mp hb
  rw [quU_sm, quU_sm]
  have h1 : sm (fun z => (quB Lf a y z).toNat + (if z = y then 1 else 0)) n ≤ sm (fun z => (quB Lf a x z).toNat) n := by
    refine sm_le fun z hz => ?_
    by_cases e : z = y
    · rw [if_pos e, e, hb]
      have : quB Lf a y y = false := by
        cases q : quB Lf a y y with
        | false => rfl
        | true =>
          have := ((quB_iff h ha hy hy).mp q).2
          rw [h.1.2.2.1 y] at this
          cases this
      rw [this]
      decide
    · rw [if_neg e]
      cases q : quB Lf a y z with
      | false => exact Nat.zero_le _
      | true =>
        have q2 := (quB_iff h ha hy hz).mp q
        rw [(quB_iff h ha hx hz).mpr ⟨q2.1, h.1.2.2.2 z y x q2.2 hb2.2⟩]
        decide
  rw [sm_add, sm_one (k := y) hy (fun i _ hne => if_neg hne), if_pos rfl] at h1
  exact h1
theorem quH_rec (h : Tied n bl ab Lf) {a x : Nat} (ha : a < n) (hx : x < n) (hup : x = a ∨ (ab a).testBit x = true) (μ : Nat → Int32) : quH Lf n a μ (n + 1) x = -((if x = a then -1 else 0) + sI (fun y => if quB Lf a x y = true then quH Lf n a μ (n + 1) y else 0) n) := by
  have hstay : ∀ y k, quU Lf a y n + 1 ≤ k → quH Lf n a μ k y = quH Lf n a μ (quU Lf a y n + 1) y := by
    intro y k hk
    obtain ⟨d, rfl⟩ : ∃ d, k = quU Lf a y n + 1 + d := ⟨k - (quU Lf a y n + 1), by omega⟩
    exact quH_stay Lf n a μ y d
  have hle := quU_le Lf a x n
  rw [hstay x (n + 1) (by omega)]
  have hcond : ((decide (x = a) || Lf (16 * a + x)) && decide (quU Lf a x n = quU Lf a x n)) = true := by
    rw [decide_eq_true rfl, Bool.and_true, h.2 a x ha hx]
    rcases hup with e | e
    · rw [decide_eq_true e]; rfl
    · rw [e, Bool.or_true]
  have e1 := quX_at Lf n a (quU Lf a x n) (quH Lf n a μ (quU Lf a x n)) x hcond (n - (x + 1))
  rw [show x + 1 + (n - (x + 1)) = n by omega] at e1
  show quX Lf n a (quU Lf a x n) (quH Lf n a μ (quU Lf a x n)) n x = _
  rw [e1, quS_sI]
  congr 2
  refine sI_congr fun y hy => ?_
  by_cases q : quB Lf a x y = true
  · rw [if_pos q, if_pos q]
    have hlt := quU_lt h ha hx hy q
    rw [quX_ne Lf n a _ _ y (by omega), hstay y _ hlt, hstay y (n + 1) (by have := quU_le Lf a y n; omega)]
  · rw [if_neg q, if_neg q]
theorem dn_sub (h : Ord n bl ab) {x y : Nat} : ndf (bl y ||| 2 ^ y) (bl x ||| 2 ^ x) = 0 ↔ y = x ∨ (ab y).testBit x = true := by
  rw [ndf_0]
  refine ⟨fun g => ?_, fun g i hi => ?_⟩
  · have := g y (by rw [tb_or2, decide_eq_true rfl, Bool.or_true])
    rw [tb_or2, Bool.or_eq_true, decide_eq_true_eq, h.2.1] at this
    exact this.symm.imp Eq.symm id
  · rw [tb_or2, Bool.or_eq_true, decide_eq_true_eq, h.2.1] at hi ⊢
    rcases g with e | e
    · rw [← e]; exact hi
    · rcases hi with z | z
      · exact Or.inl (h.2.2.2 i y x z e)
      · rw [← z]; exact Or.inl e
theorem mue_0 (h : Ord n bl ab) {i j : Nat} (hij : i ≠ j) (hl : (ab i).testBit j = false) (T : Nat) : muR (mqS bl ((ab i ||| 2 ^ i) &&& (bl j ||| 2 ^ j)) T).1 (mqS bl ((ab i ||| 2 ^ i) &&& (bl j ||| 2 ^ j)) T).2 = 0 := by
  have e := gS_none (b := fun t => ((ab i ||| 2 ^ i) &&& (bl j ||| 2 ^ j)).testBit t) (dn := fun t => bl t ||| 2 ^ t) T (fun x _ => by
    show ((ab i ||| 2 ^ i) &&& (bl j ||| 2 ^ j)).testBit x = false
    rw [Nat.testBit_and, tb_or2, tb_or2, h.2.1]
    cases q : (((ab i).testBit x || decide (i = x)) && ((ab x).testBit j || decide (j = x))) with
    | false => rfl
    | true =>
      simp only [Bool.and_eq_true, Bool.or_eq_true, decide_eq_true_eq] at q
      rcases q with ⟨q1 | q1, q2 | q2⟩
      · rw [h.2.2.2 i x j q1 q2] at hl; cases hl
      · rw [q2, q1] at hl; cases hl
      · rw [← q1] at q2; rw [q2] at hl; cases hl
      · exact absurd (q1.trans q2.symm) hij)
  rw [mqS_gS]
  unfold muR
  rw [if_pos e]
theorem mue_eq (h : Tied n bl ab Lf) {i j : Nat} (hi : i < n) (hj : j < n) (hij : i = j ∨ (ab i).testBit j = true) (μ : Nat → Int32) : muR (mqS bl ((ab i ||| 2 ^ i) &&& (bl j ||| 2 ^ j)) n).1 (mqS bl ((ab i ||| 2 ^ i) &&& (bl j ||| 2 ^ j)) n).2 = quH Lf n i μ (n + 1) j := by
  have hb : ∀ x, ((ab i ||| 2 ^ i) &&& (bl j ||| 2 ^ j)).testBit x = true ↔ (x = i ∨ (ab i).testBit x = true) ∧ (x = j ∨ (ab x).testBit j = true) := by
    intro x
    rw [Nat.testBit_and, tb_or2, tb_or2, h.1.2.1, Bool.and_eq_true, Bool.or_eq_true, Bool.or_eq_true, decide_eq_true_eq, decide_eq_true_eq]
    exact ⟨fun q => ⟨q.1.symm.imp Eq.symm id, q.2.symm.imp Eq.symm id⟩, fun q => ⟨(q.1.imp Eq.symm id).symm, (q.2.imp Eq.symm id).symm⟩⟩
  rw [mqS_gS]
  refine muR_spec (b := fun t => ((ab i ||| 2 ^ i) &&& (bl j ||| 2 ^ j)).testBit t) (dn := fun t => bl t ||| 2 ^ t) (T := n) (C := fun t => quH Lf n i μ (n + 1) t) (a := i) (z := j) ?_ ⟨hi, (hb i).mpr ⟨Or.inl rfl, hij⟩⟩ ⟨hj, (hb j).mpr ⟨hij.imp Eq.symm id, Or.inl rfl⟩⟩ ?_ ?_ ?_
  · intro x y _ _ _ _ e
    have e : bl x ||| 2 ^ x = bl y ||| 2 ^ y := e
    have h1 := (dn_sub h.1 (x := x) (y := y)).mp (by rw [e, ndf_0]; exact fun _ z => z)
    have h2 := (dn_sub h.1 (x := y) (y := x)).mp (by rw [e, ndf_0]; exact fun _ z => z)
    rcases h1 with h1 | h1
    · exact h1.symm
    · rcases h2 with h2 | h2
      · exact h2
      · have := h.1.2.2.2 x y x h2 h1
        rw [h.1.2.2.1 x] at this
        cases this
  · intro x hx hbx
    exact ndf_0.mp ((dn_sub h.1).mpr (((hb x).mp hbx).1.imp Eq.symm id))
  · intro x hx hbx
    exact ndf_0.mp ((dn_sub h.1).mpr ((hb x).mp hbx).2)
  · intro x hx hbx
    have hbx := (hb x).mp hbx
    show quH Lf n i μ (n + 1) x = _
    rw [quH_rec h hi hx hbx.1 μ]
    have es : sI (fun y => if quB Lf i x y = true then quH Lf n i μ (n + 1) y else 0) n = sI (fun y => if ((ab i ||| 2 ^ i) &&& (bl j ||| 2 ^ j)).testBit y = true ∧ ndf (bl y ||| 2 ^ y) (bl x ||| 2 ^ x) = 0 ∧ y ≠ x then quH Lf n i μ (n + 1) y else 0) n := by
      refine sI_congr fun y hy => ?_
      by_cases q : quB Lf i x y = true
      · have q2 := (quB_iff h hi hx hy).mp q
        have w1 : (ab y).testBit j = true := by
          rcases hbx.2 with e | e
          · rw [← e]; exact q2.2
          · exact h.1.2.2.2 y x j q2.2 e
        have w2 : y ≠ x := by
          intro e
          rw [e, h.1.2.2.1 x] at q2
          cases q2.2
        rw [if_pos q, if_pos ⟨(hb y).mpr ⟨q2.1, Or.inr w1⟩, (dn_sub h.1).mpr (Or.inr q2.2), w2⟩]
      · rw [if_neg q, if_neg]
        intro w
        refine q ((quB_iff h hi hx hy).mpr ⟨((hb y).mp w.1).1, ?_⟩)
        exact ((dn_sub h.1).mp w.2.1).resolve_left w.2.2
    by_cases e : x = i
    · rw [if_pos e, if_pos e]
      have z : sI (fun y => if quB Lf i x y = true then quH Lf n i μ (n + 1) y else 0) n = 0 := by
        refine sI_0 fun y hy => if_neg fun q => ?_
        have q2 := (quB_iff h hi hx hy).mp q
        rw [e] at q2
        rcases q2.1 with w | w
        · rw [w, h.1.2.2.1 i] at q2; cases q2.2
        · have := h.1.2.2.2 i y i w q2.2
          rw [h.1.2.2.1 i] at this
          cases this
      rw [z]
      decide
    · rw [if_neg e, if_neg e, Int32.zero_add, es]
end MUM
