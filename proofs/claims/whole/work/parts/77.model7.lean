/-! THE MODEL: cuts -/
def isCut (Lf : Nat → Bool) (n s : Nat) : Bool := decide (setB (qbelow Lf n (setB (qabove Lf n s) n)) n = s)
def fcN (Lf : Nat → Bool) (n : Nat) : Nat → Nat
  | 0 => 0
  | k + 1 => fcN Lf n k + (isCut Lf n k).toNat
def fcV (Lf : Nat → Bool) (n : Nat) : Nat → Nat → Nat
  | 0, _ => 0
  | k + 1, j => if isCut Lf n k = true ∧ fcN Lf n k = j then k else fcV Lf n k j
/-- the row of cuts as it stands in the model -/
def fcA (Lf : Nat → Bool) (n : Nat) (f : Nat → Int32) (k : Nat) : Nat → Int32 := fun j => if j < fcN Lf n k then nI (fcV Lf n k j) else f j
abbrev mcN (Lf : Nat → Bool) (n : Nat) : Nat := fcN Lf n (2 ^ n)
abbrev mcV (Lf : Nat → Bool) (n : Nat) : Nat → Nat := fcV Lf n (2 ^ n)
theorem fcN_le (Lf : Nat → Bool) (n : Nat) : ∀ k, fcN Lf n k ≤ k
  | 0 => Nat.le_refl _
  | k + 1 => by
    have h := fcN_le Lf n k
    unfold fcN
    cases isCut Lf n k <;> simp <;> omega
theorem fcV_lt (Lf : Nat → Bool) (n : Nat) : ∀ k j, j < fcN Lf n k → fcV Lf n k j < k
  | 0, j, h => absurd h (Nat.not_lt_zero _)
  | k + 1, j, h => by
    unfold fcV
    split
    · omega
    · rename_i h2
      unfold fcN at h
      cases hc : isCut Lf n k with
      | true =>
        rw [hc] at h h2
        have h3 : ¬ fcN Lf n k = j := fun e => h2 ⟨rfl, e⟩
        have h : j < fcN Lf n k + 1 := h
        have := fcV_lt Lf n k j (by omega)
        omega
      | false =>
        rw [hc] at h
        have := fcV_lt Lf n k j h
        omega
theorem fcA_s (Lf : Nat → Bool) (n : Nat) (f : Nat → Int32) (k : Nat) (h : isCut Lf n k = true) : upd (fcA Lf n f k) (fcN Lf n k) (nI k) = fcA Lf n f (k + 1) := by
  funext j
  unfold fcA
  have e : fcN Lf n (k + 1) = fcN Lf n k + 1 := by rw [fcN, h]; rfl
  rw [e]
  by_cases hj : j = fcN Lf n k
  · subst hj
    rw [pk_us, if_pos (Nat.lt_succ_self _), fcV, if_pos ⟨h, rfl⟩]
  · have ev : fcV Lf n (k + 1) j = fcV Lf n k j := by rw [fcV, if_neg (fun q : isCut Lf n k = true ∧ fcN Lf n k = j => hj q.2.symm)]
    rw [pk_un hj, ev]
    by_cases h2 : j < fcN Lf n k
    · rw [if_pos h2, if_pos (by omega)]
    · rw [if_neg h2, if_neg (by omega)]
theorem fcA_n (Lf : Nat → Bool) (n : Nat) (f : Nat → Int32) (k : Nat) (h : isCut Lf n k = false) : fcA Lf n f k = fcA Lf n f (k + 1) := by
  funext j
  unfold fcA
  have e : fcN Lf n (k + 1) = fcN Lf n k := by rw [fcN, h]; rfl
  have ev : fcV Lf n (k + 1) j = fcV Lf n k j := by rw [fcV, if_neg (fun q : isCut Lf n k = true ∧ fcN Lf n k = j => by rw [h] at q; cases q.1)]
  rw [e, ev]
theorem fcN_s (Lf : Nat → Bool) (n k : Nat) (h : isCut Lf n k = true) : nI (fcN Lf n k) + 1 = nI (fcN Lf n (k + 1)) := by
  rw [fcN, h, nI_1]
  rfl
theorem fcN_n (Lf : Nat → Bool) (n k : Nat) (h : isCut Lf n k = false) : fcN Lf n k = fcN Lf n (k + 1) := by
  rw [fcN, h]
  rfl
def exF (cv : Nat → Nat) (ov : Bool) (s k : Nat) : Bool := if ov = true then decide (cv k &&& s = s) else decide (ndf (cv k) s = 0)
def exB (cv : Nat → Nat) (ov : Bool) (o : Option Nat) (k : Nat) : Bool := match o with
  | none => true
  | some j => if ov = true then decide (ndf (cv k) (cv j) = 0) else decide (ndf (cv j) (cv k) = 0)
theorem exB_1 {cv : Nat → Nat} {ov : Bool} {j k : Nat} (h : ov = true) : exB cv ov (some j) k = decide (ndf (cv k) (cv j) = 0) := if_pos h
theorem exB_0 {cv : Nat → Nat} {ov : Bool} {j k : Nat} (h : ov = false) : exB cv ov (some j) k = decide (ndf (cv j) (cv k) = 0) := if_neg (by rw [h]; simp)
def exS (cv : Nat → Nat) (ov : Bool) (s : Nat) : Nat → Option Nat
  | 0 => none
  | k + 1 => if (exF cv ov s k && exB cv ov (exS cv ov s k) k) = true then some k else exS cv ov s k
theorem exS_lt {cv : Nat → Nat} {ov : Bool} {s : Nat} : ∀ k j, exS cv ov s k = some j → j < k
  | 0, j, h => by cases h
  | k + 1, j, h => by
    unfold exS at h
    split at h
    · cases h; omega
    · have := exS_lt k j h; omega
theorem nb_n0 {a b : Nat} (ha : a < 2 ^ 14) : nI a &&& (nI b ^^^ (-1)) = 0 ↔ ndf a b = 0 := by
  rw [nb_not, nb_0 (Nat.lt_of_le_of_lt (ndf_le _ _) (by omega))]
section MG
variable (K : zK) (A : Nat → Nat) (n : Nat) (cc : Int32)
set_option maxHeartbeats 4000000 in
set_option maxRecDepth 100000 in
theorem m_findCuts (Lf : Nat → Bool) (f0 : Nat → Int32) (hn : n ≤ 14) : zD K yX9_findCuts cX9_findCuts 2 none (zq 2 0 0 80) [.ref (A 0)] [mO A n cc, mZ K (A 1) Lf, mI K (A 4) 16384 f0] none [mO A n (nI (mcN Lf n)), mZ K (A 1) Lf, mI K (A 4) 16384 (fcA Lf n f0 (2 ^ n))] := by
  refine zo (by decide) (Nat.le_of_ble_eq_true rfl) fun x C R _ => ?_
  have hp : 0 < 2 ^ n := Nat.two_pow_pos n
  have hp14 := pow_le14 hn
  have loop : ∀ k, k ≤ 2 ^ n → zv_V x (gz K (zq 2 0 0 80) 2 cX9_findCuts yX9_findCuts.cls) 7 [(0, .ref (A 0)), (1, .int (nI k))] [] [mO A n (nI (fcN Lf n k)), mZ K (A 1) Lf, mI K (A 4) 16384 (fcA Lf n f0 k)] 0 0 := by
    refine zl (2 ^ n) ?_ fun k hk ih => ?_
    · refine zv_go C okX9_findCuts [] 20 ?_
      refine zv_callV C (m_all K A n (nI (fcN Lf n (2 ^ n))) hn) (zw_V inX9_all kX9_61 ⟨by decide, by decide⟩) [0] 0 rfl rfl rfl rfl (fun _ => Nat.le_refl _) (rest := [.int (nI (2 ^ n))]) rfl rfl (Nat.le_of_ble_eq_true rfl) dzX9_findCuts_9 (by decide) (by decide) rfl (fun _ _ => ?_)
      refine zv_to C rfl rfl (ws' := [mO A n (nI (fcN Lf n (2 ^ n))), mZ K (A 1) Lf, mI K (A 4) 16384 (fcA Lf n f0 (2 ^ n))]) rfl ?_
      refine zv_go C okX9_findCuts [] 20 ?_
      refine ⟨fun _ => ?_, fun h => absurd (nI_lt (by omega) (by omega)) h⟩
      exact zr R () [0, 1, 2] none _ rfl rfl trivial rfl rfl (Nat.zero_le _) (Nat.zero_le _) dzX9_findCuts_54
    · have hle := fcN_le Lf n k
      have hab : (setB (qabove Lf n k) n) < 2 ^ 14 := Nat.lt_of_lt_of_le (setB_lt n) (by omega)
      have hbl : setB (qbelow Lf n (setB (qabove Lf n k) n)) n < 2 ^ 14 := Nat.lt_of_lt_of_le (setB_lt n) (by omega)
      refine zv_go C okX9_findCuts [] 20 ?_
      refine zv_callV C (m_all K A n (nI (fcN Lf n k)) hn) (zw_V inX9_all kX9_61 ⟨by decide, by decide⟩) [0] 0 rfl rfl rfl rfl (fun _ => Nat.le_refl _) (rest := [.int (nI k)]) rfl rfl (Nat.le_of_ble_eq_true rfl) dzX9_findCuts_9 (by decide) (by decide) rfl (fun _ _ => ?_)
      refine zv_to C rfl rfl (ws' := [mO A n (nI (fcN Lf n k)), mZ K (A 1) Lf, mI K (A 4) 16384 (fcA Lf n f0 k)]) rfl ?_
      refine zv_go C okX9_findCuts [] 20 ?_
      refine ⟨fun h => absurd h (nI_nlt (by omega) (by omega)), fun _ => ?_⟩
      refine zv_callV C (m_above K A n (nI (fcN Lf n k)) Lf (s := k) (by omega) hn) (zw_V inX9_above kX9_106 ⟨by decide, by decide⟩) [0, 1] 0 rfl rfl rfl rfl (fun _ => Nat.le_refl _) (rest := [.ref (A 0)]) rfl rfl (Nat.le_of_ble_eq_true rfl) dzX9_findCuts_18 (by decide) (by decide) rfl (fun _ _ => ?_)
      refine zv_to C rfl rfl (ws' := [mO A n (nI (fcN Lf n k)), mZ K (A 1) Lf, mI K (A 4) 16384 (fcA Lf n f0 k)]) rfl ?_
      refine zv_go C okX9_findCuts [] 20 ?_
      refine zv_callV C (m_below K A n (nI (fcN Lf n k)) Lf (s := (setB (qabove Lf n k) n)) hab hn) (zw_V inX9_below kX9_109 ⟨by decide, by decide⟩) [0, 1] 0 rfl rfl rfl rfl (fun _ => Nat.le_refl _) rfl rfl (by decide) dzX9_findCuts_21 (by decide) (by decide) rfl (fun _ _ => ?_)
      refine zv_to C rfl rfl (ws' := [mO A n (nI (fcN Lf n k)), mZ K (A 1) Lf, mI K (A 4) 16384 (fcA Lf n f0 k)]) rfl ?_
      refine zv_go C okX9_findCuts [7] 30 ?_
      refine ⟨fun h => ?_, fun h => ⟨rfl, rfl, ⟨rfl, rfl⟩, vp_in_nI (by omega) (by decide), rfl, rfl, ?_⟩⟩
      · rw [nb_inj (by omega) (by omega)] at h
        have hc : isCut Lf n k = false := decide_eq_false h
        refine zv_to C (lv' := [(0, .ref (A 0)), (1, .int (nI (k + 1)))]) (by rw [← nI_1 k] <;> rfl) rfl (ws' := [mO A n (nI (fcN Lf n (k + 1))), mZ K (A 1) Lf, mI K (A 4) 16384 (fcA Lf n f0 (k + 1))]) (by rw [← fcA_n Lf n f0 k hc, ← fcN_n Lf n k hc]) ih
      · rw [nb_inj (by omega) (by omega)] at h
        have hc : isCut Lf n k = true := decide_eq_true h
        refine zv_to C (lv' := [(0, .ref (A 0)), (1, .int (nI (k + 1)))]) (by rw [← nI_1 k] <;> rfl) rfl (ws' := [mO A n (nI (fcN Lf n (k + 1))), mZ K (A 1) Lf, mI K (A 4) 16384 (fcA Lf n f0 (k + 1))]) ?_ ih
        show [mO A n (nI (fcN Lf n k) + 1), _, (A 4, Sum.inl (cI K, 16384, Sum.inl (upd (fcA Lf n f0 k) (nI (fcN Lf n k)).toNatClampNeg (nI k))))] = _
        rw [nI_clamp (by omega), fcA_s Lf n f0 k hc, fcN_s Lf n k hc]
  refine zv_go C okX9_findCuts [7] 20 ?_
  refine ⟨rfl, ?_⟩
  refine zv_to C rfl rfl (ws' := [mO A n (nI (fcN Lf n 0)), mZ K (A 1) Lf, mI K (A 4) 16384 (fcA Lf n f0 0)]) ?_ (loop 0 (Nat.zero_le _))
  have e : fcA Lf n f0 0 = f0 := by
    funext j
    unfold fcA
    exact if_neg (Nat.not_lt_zero _)
  rw [e]
  rfl
set_option maxHeartbeats 4000000 in
set_option maxRecDepth 100000 in
theorem m_cut_no (Lf : Nat → Bool) (f0 : Nat → Int32) (k : Int32) (h : hasb (mcN Lf n) k = false) (hn : n ≤ 14) : zD K yX9_cut cX9_cut 2 (some .int) (zq 3 0 0 120) [.ref (A 0), .int k] [mO A n cc, mZ K (A 1) Lf, mI K (A 4) 16384 f0] (some (.int (-1))) [mO A n (nI (mcN Lf n)), mZ K (A 1) Lf, mI K (A 4) 16384 (fcA Lf n f0 (2 ^ n))] := by
  refine zo (by decide) (Nat.le_of_ble_eq_true rfl) fun x C R _ => ?_
  have hp : 0 < 2 ^ n := Nat.two_pow_pos n
  have hp14 := pow_le14 hn
  have hNle : mcN Lf n ≤ 2 ^ n := fcN_le Lf n (2 ^ n)
  have hfa : ∀ j, j < mcN Lf n → fcA Lf n f0 (2 ^ n) j = nI (mcV Lf n j) := fun j hj => if_pos hj
  have hcl : ∀ j, j < mcN Lf n → mcV Lf n j < 2 ^ 14 := fun j hj => Nat.lt_of_lt_of_le (fcV_lt Lf n (2 ^ n) j hj) (by omega)
  refine zv_go C okX9_cut [] 20 ?_
  refine zv_callV C (m_findCuts K A n cc Lf f0 hn) (zw_V inX9_findCuts kX9_87 ⟨by decide, by decide⟩) [0, 1, 2] 0 rfl rfl rfl rfl (fun _ => Nat.le_refl _) rfl rfl (by decide) dzX9_cut_1 (by decide) (by decide) rfl (fun _ _ => ?_)
  refine zv_to C rfl rfl (ws' := [mO A n (nI (mcN Lf n)), mZ K (A 1) Lf, mI K (A 4) 16384 (fcA Lf n f0 (2 ^ n))]) rfl ?_
  refine zv_go C okX9_cut [] 20 ?_
  refine ⟨fun h1 => ?_, fun h1 => ⟨rfl, fun h2 => ?_, fun h2 => ?_⟩⟩
  · exact zr R () [0, 1, 2] (some (.int (-1))) _ rfl rfl trivial rfl rfl (Nat.zero_le _) (Nat.zero_le _) dzX9_cut_26
  · unfold hasb at h
    rw [decide_eq_false_iff_not] at h
    exact absurd ⟨Int32.not_lt.mp h1, h2⟩ h
  · exact zr R () [0, 1, 2] (some (.int (-1))) _ rfl rfl trivial rfl rfl (Nat.zero_le _) (Nat.zero_le _) dzX9_cut_26
set_option maxHeartbeats 4000000 in
set_option maxRecDepth 100000 in
theorem m_cut (Lf : Nat → Bool) (f0 : Nat → Int32) {j : Nat} (hj : j < mcN Lf n) (hn : n ≤ 14) : zD K yX9_cut cX9_cut 2 (some .int) (zq 3 0 0 120) [.ref (A 0), .int (nI j)] [mO A n cc, mZ K (A 1) Lf, mI K (A 4) 16384 f0] (some (.int (nI (mcV Lf n j)))) [mO A n (nI (mcN Lf n)), mZ K (A 1) Lf, mI K (A 4) 16384 (fcA Lf n f0 (2 ^ n))] := by
  refine zo (by decide) (Nat.le_of_ble_eq_true rfl) fun x C R _ => ?_
  have hp : 0 < 2 ^ n := Nat.two_pow_pos n
  have hp14 := pow_le14 hn
  have hNle : mcN Lf n ≤ 2 ^ n := fcN_le Lf n (2 ^ n)
  have hfa : ∀ j, j < mcN Lf n → fcA Lf n f0 (2 ^ n) j = nI (mcV Lf n j) := fun j hj => if_pos hj
  have hcl : ∀ j, j < mcN Lf n → mcV Lf n j < 2 ^ 14 := fun j hj => Nat.lt_of_lt_of_le (fcV_lt Lf n (2 ^ n) j hj) (by omega)
  refine zv_go C okX9_cut [] 20 ?_
  refine zv_callV C (m_findCuts K A n cc Lf f0 hn) (zw_V inX9_findCuts kX9_87 ⟨by decide, by decide⟩) [0, 1, 2] 0 rfl rfl rfl rfl (fun _ => Nat.le_refl _) rfl rfl (by decide) dzX9_cut_1 (by decide) (by decide) rfl (fun _ _ => ?_)
  refine zv_to C rfl rfl (ws' := [mO A n (nI (mcN Lf n)), mZ K (A 1) Lf, mI K (A 4) 16384 (fcA Lf n f0 (2 ^ n))]) rfl ?_
  refine zv_go C okX9_cut [] 20 ?_
  refine ⟨fun h1 => ?_, fun h1 => ⟨rfl, fun h2 => ⟨rfl, ⟨rfl, rfl⟩, vp_in_nI (by omega) (by decide), ?_⟩, fun h2 => ?_⟩⟩
  · exact absurd h1 (nI_nlt (b := 0) (Nat.zero_le _) (by omega))
  · exact zr R () [0, 1, 2] (some (.int _)) _ (by rw [nI_clamp (by omega), hfa j hj]) rfl trivial rfl rfl (Nat.zero_le _) (Nat.zero_le _) dzX9_cut_26
  · exact absurd (nI_lt hj (by omega)) h2
set_option maxHeartbeats 4000000 in
set_option maxRecDepth 100000 in
theorem m_extreme (cv : Nat → Nat) (N : Nat) (f : Nat → Int32) (ov : Bool) {s : Nat} (hN : N ≤ 16384) (hs : s < 2 ^ 14) (hf : ∀ j, j < N → f j = nI (cv j)) (hc : ∀ j, j < N → cv j < 2 ^ 14) : zD K yX9_extreme cX9_extreme 7 (some .int) (zq 0 0 0 0) [.ref (A 0), .int (nI s), .int (bI ov)] [mO A n (nI N), mI K (A 4) 16384 f] (some (.int (oI (exS cv ov s N)))) [mO A n (nI N), mI K (A 4) 16384 f] := by
  refine zo (by decide) (Nat.le_of_ble_eq_true rfl) fun x C R _ => ?_
  have loop : ∀ k, k ≤ N → zv_V x (gz K (zq 0 0 0 0) 7 cX9_extreme yX9_extreme.cls) 5 [(0, .ref (A 0)), (1, .int (nI s)), (2, .int (bI ov)), (3, .int (oI (exS cv ov s k))), (4, .int (nI k))] [] [mO A n (nI N), mI K (A 4) 16384 f] 0 0 := by
    refine zl N ?_ fun k hk ih => ?_
    · refine zv_go C okX9_extreme [] 20 ?_
      refine ⟨rfl, fun _ => ?_, fun h => absurd (nI_le (Nat.le_refl _) (by omega)) h⟩
      exact zr R () [0, 1] (some (.int _)) _ rfl rfl trivial rfl rfl (Nat.zero_le _) (Nat.zero_le _) dzX9_extreme_141
    · have ek : (nI k).toNatClampNeg = k := nI_clamp (by omega)
      have kin : vp_in (nI k) 16384 := vp_in_nI (by omega) (by decide)
      have hck := hc k hk
      have fin : ∀ o, exS cv ov s k = o → ∀ a b : Bool, a = exF cv ov s k → b = exB cv ov o k → zv_V x (gz K (zq 0 0 0 0) 7 cX9_extreme yX9_extreme.cls) 115 [(0, .ref (A 0)), (1, .int (nI s)), (2, .int (bI ov)), (3, .int (oI o)), (4, .int (nI k)), (5, .int (bI a))] [.int (bI b)] [mO A n (nI N), mI K (A 4) 16384 f] 0 0 := by
        intro o ho a b ha hb
        have step : (exS cv ov s (k + 1)) = if (a && b) = true then some k else o := by rw [exS, ho, ← ha, ← hb]
        refine zv_go C okX9_extreme [5] 20 ?_
        refine ⟨fun h => ?_, fun h => ⟨fun h2 => ?_, fun h2 => ?_⟩⟩
        · rw [bI_0] at h
          refine zv_drop C [0, 1, 2, 3, 4] (lv' := [(0, .ref (A 0)), (1, .int (nI s)), (2, .int (bI ov)), (3, .int (oI (exS cv ov s (k + 1)))), (4, .int (nI (k + 1)))]) ?_ ih
          rw [step, if_neg (by rw [h]; simp), ← nI_1 k]
          rfl
        · rw [bI_0] at h2
          refine zv_drop C [0, 1, 2, 3, 4] (lv' := [(0, .ref (A 0)), (1, .int (nI s)), (2, .int (bI ov)), (3, .int (oI (exS cv ov s (k + 1)))), (4, .int (nI (k + 1)))]) ?_ ih
          rw [step, if_neg (by rw [h2]; simp), ← nI_1 k]
          rfl
        · rw [bI_1] at h h2
          refine zv_drop C [0, 1, 2, 3, 4] (lv' := [(0, .ref (A 0)), (1, .int (nI s)), (2, .int (bI ov)), (3, .int (oI (exS cv ov s (k + 1)))), (4, .int (nI (k + 1)))]) ?_ ih
          rw [step, if_pos (by rw [h, h2]; rfl), ← nI_1 k]
          rfl
      have mid : ∀ a : Bool, a = exF cv ov s k → zv_V x (gz K (zq 0 0 0 0) 7 cX9_extreme yX9_extreme.cls) 58 [(0, .ref (A 0)), (1, .int (nI s)), (2, .int (bI ov)), (3, .int (oI (exS cv ov s k))), (4, .int (nI k))] [.int (bI a)] [mO A n (nI N), mI K (A 4) 16384 f] 0 0 := by
        intro a ha
        cases ho : exS cv ov s k with
        | none =>
          refine zv_go C okX9_extreme [115] 20 ?_
          refine ⟨fun _ => ?_, fun h => absurd rfl h⟩
          exact fin none ho a true ha rfl
        | some j =>
          have hj : j < k := exS_lt k j ho
          have ej : (nI j).toNatClampNeg = j := nI_clamp (by omega)
          have jin : vp_in (nI j) 16384 := vp_in_nI (by omega) (by decide)
          have hcj := hc j (by omega)
          refine zv_go C okX9_extreme [115] 60 ?_
          refine ⟨fun h => ?_, fun _ => ⟨fun h => ⟨rfl, ⟨rfl, rfl⟩, jin, rfl, ⟨rfl, rfl⟩, kin, fun h2 => ?_, fun h2 => ?_⟩, fun h => ⟨rfl, ⟨rfl, rfl⟩, kin, rfl, ⟨rfl, rfl⟩, jin, fun h2 => ?_, fun h2 => ?_⟩⟩⟩
          · have h : nI j = -1 := h
            exact absurd h (fun q => absurd (show ¬ (-1 : Int32) < 0 from q ▸ nI_nlt (b := 0) (Nat.zero_le _) (by omega)) (by decide))
          · rw [bI_0] at h
            have h2 : ¬ f (nI j).toNatClampNeg &&& (f (nI k).toNatClampNeg ^^^ (-1)) = 0 := h2
            rw [ek, ej, hf k hk, hf j (by omega), nb_n0 hcj] at h2
            exact fin (some j) ho a false ha (by rw [exB_0 h]; exact (decide_eq_false h2).symm)
          · rw [bI_0] at h
            have h2 : f (nI j).toNatClampNeg &&& (f (nI k).toNatClampNeg ^^^ (-1)) = 0 := h2
            rw [ek, ej, hf k hk, hf j (by omega), nb_n0 hcj] at h2
            exact fin (some j) ho a true ha (by rw [exB_0 h]; exact (decide_eq_true h2).symm)
          · rw [bI_1] at h
            have h2 : ¬ f (nI k).toNatClampNeg &&& (f (nI j).toNatClampNeg ^^^ (-1)) = 0 := h2
            rw [ek, ej, hf k hk, hf j (by omega), nb_n0 hck] at h2
            exact fin (some j) ho a false ha (by rw [exB_1 h]; exact (decide_eq_false h2).symm)
          · rw [bI_1] at h
            have h2 : f (nI k).toNatClampNeg &&& (f (nI j).toNatClampNeg ^^^ (-1)) = 0 := h2
            rw [ek, ej, hf k hk, hf j (by omega), nb_n0 hck] at h2
            exact fin (some j) ho a true ha (by rw [exB_1 h]; exact (decide_eq_true h2).symm)
      refine zv_go C okX9_extreme [58] 40 ?_
      refine ⟨rfl, fun h => absurd h (nI_ge (by omega) (by omega)), fun _ => ⟨fun h => ⟨rfl, ⟨rfl, rfl⟩, kin, fun h2 => ?_, fun h2 => ?_⟩, fun h => ⟨rfl, ⟨rfl, rfl⟩, kin, fun h2 => ?_, fun h2 => ?_⟩⟩⟩
      · rw [bI_0] at h
        have h2 : ¬ f (nI k).toNatClampNeg &&& (nI s ^^^ (-1)) = 0 := h2
        rw [ek, hf k hk, nb_n0 hck] at h2
        exact mid false (by unfold exF; rw [if_neg (by rw [h]; simp)]; exact (decide_eq_false h2).symm)
      · rw [bI_0] at h
        have h2 : f (nI k).toNatClampNeg &&& (nI s ^^^ (-1)) = 0 := h2
        rw [ek, hf k hk, nb_n0 hck] at h2
        exact mid true (by unfold exF; rw [if_neg (by rw [h]; simp)]; exact (decide_eq_true h2).symm)
      · rw [bI_1] at h
        have h2 : ¬ f (nI k).toNatClampNeg &&& nI s = nI s := h2
        rw [ek, hf k hk, nb_and, nb_inj (Nat.lt_of_le_of_lt Nat.and_le_left (by omega)) (by omega)] at h2
        exact mid false (by unfold exF; rw [if_pos h]; exact (decide_eq_false h2).symm)
      · rw [bI_1] at h
        have h2 : f (nI k).toNatClampNeg &&& nI s = nI s := h2
        rw [ek, hf k hk, nb_and, nb_inj (Nat.lt_of_le_of_lt Nat.and_le_left (by omega)) (by omega)] at h2
        exact mid true (by unfold exF; rw [if_pos h]; exact (decide_eq_true h2).symm)
  refine zv_go C okX9_extreme [5] 20 ?_
  exact loop 0 (Nat.zero_le _)
set_option maxHeartbeats 4000000 in
set_option maxRecDepth 100000 in
theorem m_least_no (Lf : Nat → Bool) (f0 : Nat → Int32) (s : Int32) (h : s < 0 ∨ nI (2 ^ n - 1) < s) (hn : n ≤ 14) : zD K yX9_least cX9_least 2 (some .int) (zq 3 0 0 120) [.ref (A 0), .int s] [mO A n cc, mZ K (A 1) Lf, mI K (A 4) 16384 f0] (some (.int (-1))) [mO A n (nI (mcN Lf n)), mZ K (A 1) Lf, mI K (A 4) 16384 (fcA Lf n f0 (2 ^ n))] := by
  refine zo (by decide) (Nat.le_of_ble_eq_true rfl) fun x C R _ => ?_
  have hp : 0 < 2 ^ n := Nat.two_pow_pos n
  have hp14 := pow_le14 hn
  have hNle : mcN Lf n ≤ 2 ^ n := fcN_le Lf n (2 ^ n)
  have hfa : ∀ j, j < mcN Lf n → fcA Lf n f0 (2 ^ n) j = nI (mcV Lf n j) := fun j hj => if_pos hj
  have hcl : ∀ j, j < mcN Lf n → mcV Lf n j < 2 ^ 14 := fun j hj => Nat.lt_of_lt_of_le (fcV_lt Lf n (2 ^ n) j hj) (by omega)
  refine zv_go C okX9_least [] 20 ?_
  refine zv_callV C (m_findCuts K A n cc Lf f0 hn) (zw_V inX9_findCuts kX9_87 ⟨by decide, by decide⟩) [0, 1, 2] 0 rfl rfl rfl rfl (fun _ => Nat.le_refl _) rfl rfl (by decide) dzX9_least_1 (by decide) (by decide) rfl (fun _ _ => ?_)
  refine zv_to C rfl rfl (ws' := [mO A n (nI (mcN Lf n)), mZ K (A 1) Lf, mI K (A 4) 16384 (fcA Lf n f0 (2 ^ n))]) rfl ?_
  refine zv_go C okX9_least [] 20 ?_
  refine ⟨fun h1 => ?_, fun h1 => ?_⟩
  · exact zr R () [0, 1, 2] (some (.int (-1))) _ rfl rfl trivial rfl rfl (Nat.zero_le _) (Nat.zero_le _) dzX9_least_26
  refine zv_callV C (m_all K A n (nI (mcN Lf n)) hn) (zw_V inX9_all kX9_61 ⟨by decide, by decide⟩) [0] 0 rfl rfl rfl rfl (fun _ => Nat.le_refl _) (rest := [.int s]) rfl rfl (Nat.le_of_ble_eq_true rfl) dzX9_least_10 (by decide) (by decide) rfl (fun _ _ => ?_)
  refine zv_to C rfl rfl (ws' := [mO A n (nI (mcN Lf n)), mZ K (A 1) Lf, mI K (A 4) 16384 (fcA Lf n f0 (2 ^ n))]) rfl ?_
  refine zv_go C okX9_least [] 20 ?_
  refine ⟨fun h2 => ?_, fun h2 => ?_⟩
  · exact absurd h (fun q => q.elim h1 (fun z => absurd h2 (Int32.not_le.mpr z)))
  · exact zr R () [0, 1, 2] (some (.int (-1))) _ rfl rfl trivial rfl rfl (Nat.zero_le _) (Nat.zero_le _) dzX9_least_26
set_option maxHeartbeats 4000000 in
set_option maxRecDepth 100000 in
theorem m_least (Lf : Nat → Bool) (f0 : Nat → Int32) {s : Nat} (hs : s < 2 ^ n) (hn : n ≤ 14) : zD K yX9_least cX9_least 2 (some .int) (zq 3 0 0 120) [.ref (A 0), .int (nI s)] [mO A n cc, mZ K (A 1) Lf, mI K (A 4) 16384 f0] (some (.int (oI (exS (mcV Lf n) true s (mcN Lf n))))) [mO A n (nI (mcN Lf n)), mZ K (A 1) Lf, mI K (A 4) 16384 (fcA Lf n f0 (2 ^ n))] := by
  refine zo (by decide) (Nat.le_of_ble_eq_true rfl) fun x C R _ => ?_
  have hp : 0 < 2 ^ n := Nat.two_pow_pos n
  have hp14 := pow_le14 hn
  have hNle : mcN Lf n ≤ 2 ^ n := fcN_le Lf n (2 ^ n)
  have hfa : ∀ j, j < mcN Lf n → fcA Lf n f0 (2 ^ n) j = nI (mcV Lf n j) := fun j hj => if_pos hj
  have hcl : ∀ j, j < mcN Lf n → mcV Lf n j < 2 ^ 14 := fun j hj => Nat.lt_of_lt_of_le (fcV_lt Lf n (2 ^ n) j hj) (by omega)
  refine zv_go C okX9_least [] 20 ?_
  refine zv_callV C (m_findCuts K A n cc Lf f0 hn) (zw_V inX9_findCuts kX9_87 ⟨by decide, by decide⟩) [0, 1, 2] 0 rfl rfl rfl rfl (fun _ => Nat.le_refl _) rfl rfl (by decide) dzX9_least_1 (by decide) (by decide) rfl (fun _ _ => ?_)
  refine zv_to C rfl rfl (ws' := [mO A n (nI (mcN Lf n)), mZ K (A 1) Lf, mI K (A 4) 16384 (fcA Lf n f0 (2 ^ n))]) rfl ?_
  refine zv_go C okX9_least [] 20 ?_
  refine ⟨fun h1 => ?_, fun h1 => ?_⟩
  · exact absurd h1 (nI_nlt (b := 0) (Nat.zero_le _) (by omega))
  refine zv_callV C (m_all K A n (nI (mcN Lf n)) hn) (zw_V inX9_all kX9_61 ⟨by decide, by decide⟩) [0] 0 rfl rfl rfl rfl (fun _ => Nat.le_refl _) (rest := [.int (nI s)]) rfl rfl (Nat.le_of_ble_eq_true rfl) dzX9_least_10 (by decide) (by decide) rfl (fun _ _ => ?_)
  refine zv_to C rfl rfl (ws' := [mO A n (nI (mcN Lf n)), mZ K (A 1) Lf, mI K (A 4) 16384 (fcA Lf n f0 (2 ^ n))]) rfl ?_
  refine zv_go C okX9_least [] 20 ?_
  refine ⟨fun h2 => ?_, fun h2 => ?_⟩
  rotate_left
  · exact absurd (nI_le (by omega) (by omega)) h2
  refine zv_callV C (m_extreme K A n (mcV Lf n) (mcN Lf n) (fcA Lf n f0 (2 ^ n)) true (s := s) (by omega) (by omega) hfa hcl) (zw_V inX9_extreme kX9_112 ⟨by decide, by decide⟩) [0, 2] 0 rfl rfl rfl rfl (fun _ => Nat.le_refl _) rfl rfl (by decide) dzX9_least_23 (by decide) (by decide) rfl (fun _ _ => ?_)
  refine zv_to C rfl rfl (ws' := [mO A n (nI (mcN Lf n)), mZ K (A 1) Lf, mI K (A 4) 16384 (fcA Lf n f0 (2 ^ n))]) rfl ?_
  exact zr R () [0, 1, 2] (some (.int _)) _ rfl rfl trivial rfl rfl (Nat.zero_le _) (Nat.zero_le _) dzX9_least_26
set_option maxHeartbeats 4000000 in
set_option maxRecDepth 100000 in
theorem m_joined_no (Lf : Nat → Bool) (f0 : Nat → Int32) (k l me : Int32) (h : hasb (mcN Lf n) k = false ∨ hasb (mcN Lf n) l = false) (hn : n ≤ 14) : zD K yX9_joined cX9_joined 4 (some .int) (zq 3 0 0 120) [.ref (A 0), .int k, .int l, .int me] [mO A n cc, mZ K (A 1) Lf, mI K (A 4) 16384 f0] (some (.int (-1))) [mO A n (nI (mcN Lf n)), mZ K (A 1) Lf, mI K (A 4) 16384 (fcA Lf n f0 (2 ^ n))] := by
  refine zo (by decide) (Nat.le_of_ble_eq_true rfl) fun x C R _ => ?_
  have hp : 0 < 2 ^ n := Nat.two_pow_pos n
  have hp14 := pow_le14 hn
  have hNle : mcN Lf n ≤ 2 ^ n := fcN_le Lf n (2 ^ n)
  have hfa : ∀ j, j < mcN Lf n → fcA Lf n f0 (2 ^ n) j = nI (mcV Lf n j) := fun j hj => if_pos hj
  have hcl : ∀ j, j < mcN Lf n → mcV Lf n j < 2 ^ 14 := fun j hj => Nat.lt_of_lt_of_le (fcV_lt Lf n (2 ^ n) j hj) (by omega)
  refine zv_go C okX9_joined [] 20 ?_
  refine zv_callV C (m_findCuts K A n cc Lf f0 hn) (zw_V inX9_findCuts kX9_87 ⟨by decide, by decide⟩) [0, 1, 2] 0 rfl rfl rfl rfl (fun _ => Nat.le_refl _) rfl rfl (by decide) dzX9_joined_1 (by decide) (by decide) rfl (fun _ _ => ?_)
  refine zv_to C rfl rfl (ws' := [mO A n (nI (mcN Lf n)), mZ K (A 1) Lf, mI K (A 4) 16384 (fcA Lf n f0 (2 ^ n))]) rfl ?_
  refine zv_go C okX9_joined [30] 20 ?_
  refine ⟨fun h1 => ?_, fun h1 => ⟨rfl, fun h2 => ?_, fun h2 => ⟨fun h3 => ?_, fun h3 => ⟨rfl, fun h4 => ?_, fun h4 => ?_⟩⟩⟩⟩
  · exact zr R () [0, 1, 2] (some (.int (-1))) _ rfl rfl trivial rfl rfl (Nat.zero_le _) (Nat.zero_le _) dzX9_joined_29
  · exact zr R () [0, 1, 2] (some (.int (-1))) _ rfl rfl trivial rfl rfl (Nat.zero_le _) (Nat.zero_le _) dzX9_joined_29
  · exact zr R () [0, 1, 2] (some (.int (-1))) _ rfl rfl trivial rfl rfl (Nat.zero_le _) (Nat.zero_le _) dzX9_joined_29
  · unfold hasb at h
    rw [decide_eq_false_iff_not, decide_eq_false_iff_not] at h
    exact absurd h (fun q => q.elim (fun z => z ⟨Int32.not_lt.mp h1, Int32.not_le.mp h2⟩) (fun z => z ⟨Int32.not_lt.mp h3, h4⟩))
  · exact zr R () [0, 1, 2] (some (.int (-1))) _ rfl rfl trivial rfl rfl (Nat.zero_le _) (Nat.zero_le _) dzX9_joined_29
set_option maxHeartbeats 4000000 in
set_option maxRecDepth 100000 in
theorem m_joined (Lf : Nat → Bool) (f0 : Nat → Int32) {i j : Nat} (me : Int32) (hi : i < mcN Lf n) (hj : j < mcN Lf n) (hn : n ≤ 14) : zD K yX9_joined cX9_joined 4 (some .int) (zq 3 0 0 120) [.ref (A 0), .int (nI i), .int (nI j), .int me] [mO A n cc, mZ K (A 1) Lf, mI K (A 4) 16384 f0] (some (.int (oI (if me = 0 then exS (mcV Lf n) true (mcV Lf n i ||| mcV Lf n j) (mcN Lf n) else exS (mcV Lf n) false (mcV Lf n i &&& mcV Lf n j) (mcN Lf n))))) [mO A n (nI (mcN Lf n)), mZ K (A 1) Lf, mI K (A 4) 16384 (fcA Lf n f0 (2 ^ n))] := by
  refine zo (by decide) (Nat.le_of_ble_eq_true rfl) fun x C R _ => ?_
  have hp : 0 < 2 ^ n := Nat.two_pow_pos n
  have hp14 := pow_le14 hn
  have hNle : mcN Lf n ≤ 2 ^ n := fcN_le Lf n (2 ^ n)
  have hfa : ∀ j, j < mcN Lf n → fcA Lf n f0 (2 ^ n) j = nI (mcV Lf n j) := fun j hj => if_pos hj
  have hcl : ∀ j, j < mcN Lf n → mcV Lf n j < 2 ^ 14 := fun j hj => Nat.lt_of_lt_of_le (fcV_lt Lf n (2 ^ n) j hj) (by omega)
  have ei : (nI i).toNatClampNeg = i := nI_clamp (by omega)
  have ej : (nI j).toNatClampNeg = j := nI_clamp (by omega)
  have iin : vp_in (nI i) 16384 := vp_in_nI (by omega) (by decide)
  have jin : vp_in (nI j) 16384 := vp_in_nI (by omega) (by decide)
  refine zv_go C okX9_joined [] 20 ?_
  refine zv_callV C (m_findCuts K A n cc Lf f0 hn) (zw_V inX9_findCuts kX9_87 ⟨by decide, by decide⟩) [0, 1, 2] 0 rfl rfl rfl rfl (fun _ => Nat.le_refl _) rfl rfl (by decide) dzX9_joined_1 (by decide) (by decide) rfl (fun _ _ => ?_)
  refine zv_to C rfl rfl (ws' := [mO A n (nI (mcN Lf n)), mZ K (A 1) Lf, mI K (A 4) 16384 (fcA Lf n f0 (2 ^ n))]) rfl ?_
  refine zv_go C okX9_joined [30] 20 ?_
  refine ⟨fun h1 => ?_, fun h1 => ⟨rfl, fun h2 => ?_, fun h2 => ⟨fun h3 => ?_, fun h3 => ⟨rfl, fun h4 => ?_, fun h4 => ?_⟩⟩⟩⟩
  · exact absurd h1 (nI_nlt (b := 0) (Nat.zero_le _) (by omega))
  · exact absurd h2 (nI_ge hi (by omega))
  · exact absurd h3 (nI_nlt (b := 0) (Nat.zero_le _) (by omega))
  rotate_left
  · exact absurd (nI_lt hj (by omega)) h4
  refine zv_go C okX9_joined [] 30 ?_
  refine ⟨fun h => ⟨rfl, ⟨rfl, rfl⟩, iin, rfl, ⟨rfl, rfl⟩, jin, ?_⟩, fun h => ⟨rfl, ⟨rfl, rfl⟩, iin, rfl, ⟨rfl, rfl⟩, jin, ?_⟩⟩
  · refine zv_to C rfl (st' := [.int (bI true), .int (nI (mcV Lf n i ||| mcV Lf n j)), .ref (A 0)]) ?_ rfl ?_
    · show [Value.int 1, .int (fcA Lf n f0 (2 ^ n) (nI i).toNatClampNeg ||| fcA Lf n f0 (2 ^ n) (nI j).toNatClampNeg), .ref (A 0)] = _
      rw [ei, ej, hfa i hi, hfa j hj, nb_or]
      rfl
    refine zv_callV C (m_extreme K A n (mcV Lf n) (mcN Lf n) (fcA Lf n f0 (2 ^ n)) true (s := (mcV Lf n i ||| mcV Lf n j)) (by omega) (nb_lt_or (hcl i hi) (hcl j hj)) hfa hcl) (zw_V inX9_extreme kX9_112 ⟨by decide, by decide⟩) [0, 2] 0 rfl rfl rfl rfl (fun _ => Nat.le_refl _) rfl rfl (by decide) dzX9_joined_70 (by decide) (by decide) rfl (fun _ _ => ?_)
    refine zv_to C rfl rfl (ws' := [mO A n (nI (mcN Lf n)), mZ K (A 1) Lf, mI K (A 4) 16384 (fcA Lf n f0 (2 ^ n))]) rfl ?_
    refine zv_go C okX9_joined [] 3 ?_
    exact zr R () [0, 1, 2] (some (.int _)) _ (by rw [if_pos h] <;> rfl) rfl trivial rfl rfl (Nat.zero_le _) (Nat.zero_le _) dzX9_joined_73
  · refine zv_to C rfl (st' := [.int (bI false), .int (nI (mcV Lf n i &&& mcV Lf n j)), .ref (A 0)]) ?_ rfl ?_
    · show [Value.int 0, .int (fcA Lf n f0 (2 ^ n) (nI i).toNatClampNeg &&& fcA Lf n f0 (2 ^ n) (nI j).toNatClampNeg), .ref (A 0)] = _
      rw [ei, ej, hfa i hi, hfa j hj, nb_and]
      rfl
    refine zv_callV C (m_extreme K A n (mcV Lf n) (mcN Lf n) (fcA Lf n f0 (2 ^ n)) false (s := (mcV Lf n i &&& mcV Lf n j)) (by omega) (Nat.lt_of_le_of_lt Nat.and_le_left (hcl i hi)) hfa hcl) (zw_V inX9_extreme kX9_112 ⟨by decide, by decide⟩) [0, 2] 0 rfl rfl rfl rfl (fun _ => Nat.le_refl _) rfl rfl (by decide) dzX9_joined_49 (by decide) (by decide) rfl (fun _ _ => ?_)
    refine zv_to C rfl rfl (ws' := [mO A n (nI (mcN Lf n)), mZ K (A 1) Lf, mI K (A 4) 16384 (fcA Lf n f0 (2 ^ n))]) rfl ?_
    refine zv_go C okX9_joined [] 3 ?_
    exact zr R () [0, 1, 2] (some (.int _)) _ (by rw [if_neg h] <;> rfl) rfl trivial rfl rfl (Nat.zero_le _) (Nat.zero_le _) dzX9_joined_73
end MG
