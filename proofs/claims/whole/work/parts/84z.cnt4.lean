/-! ROWS: row, rank -/
theorem lJ_sub {a b : Nat} (h : b ≤ a) : lJ a - lJ b = lJ (a - b) := by
  have e : lJ a = lJ (a - b) + lJ b := by rw [lJ_add, Nat.sub_add_cancel h]
  rw [e, Int64.add_sub_cancel]
section CNW
variable {n : Nat} {bl ab : Nat → Nat} {Lf : Nat → Bool}
theorem nxN_sum (h : Ord n bl ab) {left : Nat} (hl : left < 2 ^ n) (h0 : left ≠ 0) : sm (nxN bl ab n left) n = cN ab n left := by
  rw [cN_two h left hl, cN_rec bl n h0]
  refine sm_congr fun v _ => ?_
  unfold nxN
  by_cases q : mayB bl left v = true
  · have := clr_lt (mayB_iff.mp q).1
    rw [if_pos q, if_pos q, cN_two h _ (by omega)]
  · rw [if_neg q, if_neg q]
theorem nxN_big (hn : n ≤ 14) {left v : Nat} (hl : left < 2 ^ n) : nxN bl ab n left v < 2 ^ 62 := by
  unfold nxN
  split
  · exact cN_big ab hn (Nat.lt_of_le_of_lt (ndf_le _ _) hl)
  · decide
theorem mrV_step (h : Tied n bl ab Lf) (hn : n ≤ 14) (g0 : Nat → Int64) {left v κ : Nat} (hl : left < 2 ^ n) (hv : v < n) (hκ : κ < 2 ^ 62) : ((mayC Lf n left v = true ∧ lJ κ < foA Lf n g0 (ndf left (2 ^ v))) ↔ κ < nxN bl ab n left v) ∧ (if mayC Lf n left v = true then foA Lf n g0 (ndf left (2 ^ v)) else 0) = lJ (nxN bl ab n left v) := by
  have hl2 : ndf left (2 ^ v) < 2 ^ n := Nat.lt_of_le_of_lt (ndf_le _ _) hl
  rw [may_eq h hl hv, foA_eq h g0 hl2, lJ_lt hκ (cN_big ab hn hl2)]
  unfold nxN
  by_cases q : mayB bl left v = true
  · rw [if_pos q, if_pos q]
    exact ⟨⟨fun z => z.2, fun z => ⟨q, z⟩⟩, rfl⟩
  · rw [if_neg q, if_neg q]
    exact ⟨⟨fun z => absurd z.1 q, fun z => absurd z (Nat.not_lt_zero _)⟩, rfl⟩
theorem rv_joint (h : Tied n bl ab Lf) (hn : n ≤ 14) {E : Nat → Int64} (hE : reV bl n E) (g0 : Nat → Int64) {p left : Nat} (hp : p < 2 ^ n) (hi : idB bl n p = true) (hleft : left = ndf (2 ^ n - 1) p) : ∀ d v κ, v + (d + 1) = n → κ + sm (nxN bl ab n left) v < sm (nxN bl ab n left) n → κ < 2 ^ 62 → ∃ v' κ', v' < n ∧ mayB bl left v' = true ∧ κ' < cN ab n (ndf left (2 ^ v')) ∧ mrV Lf n (foA Lf n g0) left (d + 1) v (lJ κ) = some (v', lJ κ') ∧ rnV bl n E p d (lJ κ) = (v', lJ κ') := by
  have hp0 := Nat.two_pow_pos n
  have hl : left < 2 ^ n := by
    have := ndf_le (2 ^ n - 1) p
    omega
  have hit : ∀ v κ, v < n → κ < nxN bl ab n left v → mayB bl left v = true ∧ κ < cN ab n (ndf left (2 ^ v)) := by
    intro v κ _ hκ
    unfold nxN at hκ
    by_cases q : mayB bl left v = true
    · rw [if_pos q] at hκ; exact ⟨q, hκ⟩
    · rw [if_neg q] at hκ; exact absurd hκ (Nat.not_lt_zero _)
  intro d
  induction d with
  | zero =>
    intro v κ hv hs hκ
    have e : n = v + 1 := by omega
    have hs2 : κ < nxN bl ab n left v := by
      have : sm (nxN bl ab n left) n = sm (nxN bl ab n left) v + nxN bl ab n left v := by
        conv => lhs; rw [e]
        rw [sm, ← e]
      omega
    obtain ⟨a, b⟩ := hit v κ (by omega) hs2
    refine ⟨v, κ, by omega, a, b, ?_, ?_⟩
    · unfold mrV
      rw [if_pos ((mrV_step h hn g0 hl (by omega) hκ).1.mpr hs2)]
    · show (n - 1, lJ κ) = _
      rw [show n - 1 = v by omega]
  | succ d ih =>
    intro v κ hv hs hκ
    have ev : n - 1 - (d + 1) = v := by omega
    have st := mrV_step h hn g0 hl (v := v) (by omega) hκ
    by_cases q : κ < nxN bl ab n left v
    · obtain ⟨a, b⟩ := hit v κ (by omega) q
      refine ⟨v, κ, by omega, a, b, ?_, ?_⟩
      · unfold mrV
        rw [if_pos (st.1.mpr q)]
      · unfold rnV
        rw [ev, rof_eq h hn hE hp hi (by omega), ← hleft, if_neg (by rw [lJ_le (nxN_big hn hl) hκ]; omega)]
    · have q2 : nxN bl ab n left v ≤ κ := by omega
      obtain ⟨v', κ', a, b, c, e1, e2⟩ := ih (v + 1) (κ - nxN bl ab n left v) (by omega) (by show _ + (sm (nxN bl ab n left) v + nxN bl ab n left v) < _; omega) (by omega)
      refine ⟨v', κ', a, b, c, ?_, ?_⟩
      · unfold mrV
        rw [if_neg (fun z => q (st.1.mp z)), st.2, lJ_sub q2]
        exact e1
      · unfold rnV
        rw [ev, rof_eq h hn hE hp hi (by omega), ← hleft, if_pos (by rw [lJ_le (nxN_big hn hl) hκ]; exact q2), lJ_sub q2]
        exact e2
theorem row_joint (h : Tied n bl ab Lf) (h1 : 1 ≤ n) (hn : n ≤ 14) {E : Nat → Int64} (hE : reV bl n E) (g0 : Nat → Int64) : ∀ m p κ rw', p < 2 ^ n → idB bl n p = true → npc n (ndf (2 ^ n - 1) p) = m → κ < cN ab n (ndf (2 ^ n - 1) p) → mrF Lf n (foA Lf n g0) m (lJ κ) rw' (ndf (2 ^ n - 1) p) = some (rnF bl n E m (lJ κ) rw' p)
  | 0, p, κ, rw', _, _, _, _ => rfl
  | m + 1, p, κ, rw', hp, hi, hm, hκ => by
    have hp0 := Nat.two_pow_pos n
    have hle := ndf_le (2 ^ n - 1) p
    have hne : ndf (2 ^ n - 1) p ≠ 0 := fun e => by
      rw [e, npc_sm, sm_0 (fun i _ => by rw [Nat.zero_testBit]; rfl)] at hm
      cases hm
    have hbig := cN_big ab hn (s := ndf (2 ^ n - 1) p) (by omega)
    obtain ⟨v, κ', a, b, c, e1, e2⟩ := rv_joint h hn hE g0 hp hi rfl (n - 1) 0 κ (by omega) (by rw [nxN_sum h.1 (by omega) hne]; exact hκ) (by omega)
    obtain ⟨i1, i2, i3, i4⟩ := id_next h.1 hp a hi b
    unfold mrF rnF
    rw [show n - 1 + 1 = n by omega] at e1
    rw [e1, e2]
    have hpc := npc_clr a (mayB_iff.mp b).1
    have ih := row_joint h h1 hn hE g0 m (p ||| 2 ^ v) κ' (rw' ||| ((nI v).toInt64 <<< ((nI (4 * (n - (m + 1)))).toInt64 &&& 63))) i2 i1 (by rw [i4]; omega) (by rw [i4]; exact c)
    rw [i4] at ih
    exact ih
theorem row_top (h : Tied n bl ab Lf) (hn : n ≤ 14) {E : Nat → Int64} (hE : reV bl n E) (g0 : Nat → Int64) : E 0 = foA Lf n g0 (2 ^ n - 1) := by
  have hp0 := Nat.two_pow_pos n
  rw [rEnd_eq h hn hE hp0 idB_0, foA_eq h g0 (by omega)]
  congr 2
  refine Sub.eq (fun i hi => ?_) (fun i hi => ?_)
  · rw [ndf_tb, Nat.zero_testBit] at hi; simpa using hi
  · rw [ndf_tb, Nat.zero_testBit]; simpa using hi
theorem row_no (h : Tied n bl ab Lf) (hn : n ≤ 14) {E : Nat → Int64} (hE : reV bl n E) (g0 : Nat → Int64) {k : Int64} (hk : k < 0 ∨ foA Lf n g0 (2 ^ n - 1) ≤ k) : rnR bl n E k = -1 := by
  unfold rnR
  rw [row_top h hn hE g0, if_pos hk]
theorem row_eq (h : Tied n bl ab Lf) (h1 : 1 ≤ n) (hn : n ≤ 14) {E : Nat → Int64} (hE : reV bl n E) (g0 : Nat → Int64) {k : Int64} (hk : ¬ (k < 0 ∨ foA Lf n g0 (2 ^ n - 1) ≤ k)) : mrF Lf n (foA Lf n g0) n k 0 (2 ^ n - 1) = some (rnR bl n E k) := by
  have hp0 := Nat.two_pow_pos n
  unfold rnR
  rw [row_top h hn hE g0, if_neg hk]
  have hk1 : ¬ k < 0 := fun z => hk (Or.inl z)
  have hk2 : k < foA Lf n g0 (2 ^ n - 1) := Int64.not_le.mp fun z => hk (Or.inr z)
  rw [foA_eq h g0 (by omega)] at hk2
  obtain ⟨κ, a, rfl⟩ := lJ_of (cN_big ab hn (by omega)) hk1 hk2
  have e : ndf (2 ^ n - 1) 0 = 2 ^ n - 1 := Sub.eq (fun i hi => by rw [ndf_tb, Nat.zero_testBit] at hi; simpa using hi) (fun i hi => by rw [ndf_tb, Nat.zero_testBit]; simpa using hi)
  have := row_joint h h1 hn hE g0 n 0 κ 0 hp0 idB_0 (by
    rw [e, npc_sm]
    have : ∀ m, sm (fun _ => 1) m = m := by
      intro m
      induction m with
      | zero => rfl
      | succ m ih => show sm (fun _ => 1) m + 1 = _; rw [ih]
    rw [sm_congr (g := fun _ => 1) (fun i hi => by rw [all_tb, decide_eq_true hi]; rfl), this]) (by rw [e]; exact a)
  rw [e] at this
  exact this
/-! the digits of a told row -/
theorem dg_sU : ∀ i, i < 17 → 4 * i < 64 → (((nI (4 * i)).toInt64.toUInt64 &&& Int64.toUInt64 63).toBitVec % 64).toNat = 4 * i := by decide +kernel
theorem dg_sS : ∀ i, i < 16 → (((nI (4 * i)).toInt64 &&& 63).toBitVec.smod 64).toNat = 4 * i := by decide +kernel
theorem dg_15 : ∀ j, j < 32 → (15 : Int32).toBitVec.getLsbD j = decide (j < 4) := by decide +kernel
theorem rhi_bit (row : Int64) {i : Nat} (hi : i < 16) (j : Nat) : (row.toUInt64 >>> ((nI (4 * i)).toInt64.toUInt64 &&& Int64.toUInt64 63)).toInt64.toBitVec.getLsbD j = row.toBitVec.getLsbD (4 * i + j) := by
  show ((row.toUInt64 >>> ((nI (4 * i)).toInt64.toUInt64 &&& Int64.toUInt64 63)).toBitVec).getLsbD j = _
  rw [UInt64.toBitVec_shiftRight, BitVec.ushiftRight_eq', BitVec.getLsbD_ushiftRight, dg_sU i (by omega) (by omega)]
  rfl
theorem dgI_bit (row : Int64) {i j : Nat} (hi : i < 16) (hj : j < 32) : (dgI row i).toBitVec.getLsbD j = (decide (j < 4) && row.toBitVec.getLsbD (4 * i + j)) := by
  unfold dgI
  rw [Int32.toBitVec_and, BitVec.getLsbD_and, dg_15 j hj, Int64.toBitVec_toInt32, BitVec.getLsbD_signExtend, decide_eq_true hj, Bool.true_and, if_pos (show j < 64 by omega), rhi_bit row hi, Bool.and_comm]
theorem mdg_bit (row : Int64) {i j : Nat} (hi : i < 16) (hj : j < 32) : (mdg row i).toBitVec.getLsbD j = (decide (j < 4) && row.toBitVec.getLsbD (4 * i + j)) := by
  unfold mdg
  rw [mdg_and, Int32.toBitVec_and, BitVec.getLsbD_and, dg_15 j hj, Int64.toBitVec_toInt32, BitVec.getLsbD_signExtend, decide_eq_true hj, Bool.true_and, if_pos (show j < 64 by omega), Int64.toBitVec_shiftRight, BitVec.sshiftRight_eq', BitVec.getLsbD_sshiftRight, dg_sS i hi, Bool.and_comm]
  by_cases h4 : j < 4
  · rw [decide_eq_true h4, decide_eq_false (show ¬ 64 ≤ j by omega), if_pos (by omega)]
    rfl
  · rw [decide_eq_false h4]
    rfl
theorem mdt_dgt (row : Int64) {i : Nat} (hi : i < 16) : mdt row i = dgt row i := by
  unfold mdt dgt
  rw [nb_ext (x := mdg row i) (y := dgI row i) (fun j hj => by rw [dgI_bit row hi hj, mdg_bit row hi hj])]
theorem dgt_0 (row : Int64) {i : Nat} (hi : i < 16) : dgt row i = 0 ↔ ∀ j, j < 4 → row.toBitVec.getLsbD (4 * i + j) = false := by
  obtain ⟨d1, d2⟩ := dgt_ok row i
  have e : dgt row i = 0 ↔ dgI row i = 0 := by rw [d1, nb_0 (by omega)]
  rw [e]
  refine ⟨fun h j hj => ?_, fun h => nb_ext fun j hj => ?_⟩
  · have := dgI_bit row hi (j := j) (by omega)
    rw [h, decide_eq_true hj, Bool.true_and] at this
    rw [← this]
    show (0 : BitVec 32).getLsbD j = false
    exact BitVec.getLsbD_zero
  · rw [dgI_bit row hi hj]
    by_cases h4 : j < 4
    · rw [h j h4, Bool.and_false]
      exact BitVec.getLsbD_zero.symm
    · rw [decide_eq_false h4]
      exact BitVec.getLsbD_zero.symm
theorem rhi_0 (row : Int64) (hn : n ≤ 14) : rhi row n = 0 ↔ ∀ i, n ≤ i → i < 16 → dgt row i = 0 := by
  have hb : rhi row n = 0 ↔ ∀ j, row.toBitVec.getLsbD (4 * n + j) = false := by
    unfold rhi
    refine ⟨fun h j => ?_, fun h => ?_⟩
    · rw [← rhi_bit row (i := n) (by omega) j, h]
      exact BitVec.getLsbD_zero
    · apply Int64.toBitVec_inj.mp
      apply BitVec.eq_of_getLsbD_eq
      intro j _
      rw [rhi_bit row (i := n) (by omega) j, h j]
      exact BitVec.getLsbD_zero.symm
  rw [hb]
  refine ⟨fun h i h1 h2 => (dgt_0 row h2).mpr fun j hj => ?_, fun h j => ?_⟩
  · have := h (4 * (i - n) + j)
    rw [show 4 * n + (4 * (i - n) + j) = 4 * i + j by omega] at this
    exact this
  · rcases Nat.lt_or_ge (4 * n + j) 64 with hlt | hge
    · have := (dgt_0 row (i := (4 * n + j) / 4) (by omega)).mp (h _ (by omega) (by omega)) ((4 * n + j) % 4) (by omega)
      rw [show 4 * ((4 * n + j) / 4) + (4 * n + j) % 4 = 4 * n + j by omega] at this
      exact this
    · exact BitVec.getLsbD_of_ge _ _ hge
theorem nsm_eq (h : Tied n bl ab Lf) (hn : n ≤ 14) {E : Nat → Int64} (hE : reV bl n E) (g0 : Nat → Int64) {p : Nat} (hp : p < 2 ^ n) (hi : idB bl n p = true) (num : Int64) : ∀ l, l ≤ n → nsm bl E num p l = msm Lf n (foA Lf n g0) num (ndf (2 ^ n - 1) p) l
  | 0, _ => rfl
  | l + 1, hl => by
    have hle := ndf_le (2 ^ n - 1) p
    have hp0 := Nat.two_pow_pos n
    unfold nsm msm
    rw [nsm_eq h hn hE g0 hp hi num l (by omega), rof_eq h hn hE hp hi (by omega), (mrV_step h hn g0 (left := ndf (2 ^ n - 1) p) (v := l) (κ := 0) (by omega) (by omega) (by decide)).2]
theorem mkF_high (Lf : Nat → Bool) (G : Nat → Int64) (row : Int64) (num : Int64) (left : Nat) : ∀ q, n ≤ 16 - q → q ≤ 16 → mkF Lf n G row q num left = if allB (fun i => decide (i < 16 - q) || decide (mdt row i = 0)) 16 = true then num else -1
  | 0, _, _ => by
    rw [if_pos]
    · rfl
    · exact allB_iff.mpr fun i hi => by rw [decide_eq_true (by omega)]; rfl
  | q + 1, h1, h2 => by
    have ih := mkF_high Lf G row num left q (by omega) (by omega)
    unfold mkF
    rw [if_pos (by omega), ih]
    by_cases e : mdt row (15 - q) = 0
    · rw [if_pos e]
      congr 1
      rw [eq_iff_iff, allB_iff, allB_iff]
      refine ⟨fun g i hi => ?_, fun g i hi => ?_⟩
      · by_cases z : i = 15 - q
        · rw [z, decide_eq_true e, Bool.or_true]
        · have := g i hi
          rw [Bool.or_eq_true, decide_eq_true_eq] at this ⊢
          exact this.imp (fun w => by omega) id
      · have := g i hi
        rw [Bool.or_eq_true, decide_eq_true_eq] at this ⊢
        exact this.imp (fun w => by omega) id
    · rw [if_neg e, if_neg]
      intro g
      have := allB_iff.mp g (15 - q) (by omega)
      rw [decide_eq_false (by omega), decide_eq_false e] at this
      cases this
theorem rank_joint (h : Tied n bl ab Lf) (hn : n ≤ 14) {E : Nat → Int64} (hE : reV bl n E) (g0 : Nat → Int64) (row : Int64) : ∀ m p num, m ≤ n → p < 2 ^ n → idB bl n p = true → mkF Lf n (foA Lf n g0) row (16 - n + m) num (ndf (2 ^ n - 1) p) = if rhi row n = 0 then nmF bl n E row m num p else -1
  | 0, p, num, _, _, _ => by
    show mkF Lf n (foA Lf n g0) row (16 - n) num (ndf (2 ^ n - 1) p) = if rhi row n = 0 then num else -1
    rw [mkF_high Lf _ row num _ (16 - n) (by omega) (by omega)]
    congr 1
    rw [eq_iff_iff, rhi_0 row hn, allB_iff]
    refine ⟨fun g i h1 h2 => ?_, fun g i hi => ?_⟩
    · have := g i h2
      rw [decide_eq_false (by omega), Bool.false_or, decide_eq_true_eq, mdt_dgt row h2] at this
      exact this
    · by_cases z : n ≤ i
      · rw [mdt_dgt row hi, decide_eq_true (g i z hi), Bool.or_true]
      · rw [decide_eq_true (by omega)]; rfl
  | m + 1, p, num, hm, hp, hi => by
    have hle := ndf_le (2 ^ n - 1) p
    have hp0 := Nat.two_pow_pos n
    have ep : 15 - (16 - n + m) = n - (m + 1) := by omega
    show mkF Lf n (foA Lf n g0) row (16 - n + m + 1) num (ndf (2 ^ n - 1) p) = _
    unfold mkF nmF
    rw [ep, if_neg (by omega), mdt_dgt row (by omega)]
    generalize dgt row (n - (m + 1)) = d
    by_cases q1 : d < n
    · rw [may_eq h (by omega) q1]
      by_cases q2 : mayB bl (ndf (2 ^ n - 1) p) d = true
      · obtain ⟨i1, i2, i3, i4⟩ := id_next h.1 hp q1 hi q2
        rw [if_pos ⟨q1, q2⟩, if_pos (c := d < n ∧ ndf (bl d ||| 2 ^ d) p = 2 ^ d) ⟨q1, (follow_iff h.1 q1).mpr q2⟩, nsm_eq h hn hE g0 hp hi num d (by omega), ← i4]
        exact rank_joint h hn hE g0 row m _ _ (by omega) i2 i1
      · rw [if_neg (fun z => q2 z.2), if_neg (c := d < n ∧ ndf (bl d ||| 2 ^ d) p = 2 ^ d) (fun z => q2 ((follow_iff h.1 q1).mp z.2)), ite_self]
    · rw [if_neg (fun z => q1 z.1), if_neg (c := d < n ∧ ndf (bl d ||| 2 ^ d) p = 2 ^ d) (fun z => q1 z.1), ite_self]
theorem rank_eq (h : Tied n bl ab Lf) (hn : n ≤ 14) {E : Nat → Int64} (hE : reV bl n E) (g0 : Nat → Int64) (row : Int64) : nmR bl n E row = mkF Lf n (foA Lf n g0) row 16 0 (2 ^ n - 1) := by
  have := rank_joint h hn hE g0 row n 0 0 (Nat.le_refl _) (Nat.two_pow_pos n) idB_0
  have e : ndf (2 ^ n - 1) 0 = 2 ^ n - 1 := Sub.eq (fun i hi => by rw [ndf_tb, Nat.zero_testBit] at hi; simpa using hi) (fun i hi => by rw [ndf_tb, Nat.zero_testBit]; simpa using hi)
  rw [e, show 16 - n + n = 16 by omega] at this
  rw [this]
  rfl
end CNW
