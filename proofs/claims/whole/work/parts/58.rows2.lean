/-! ROW TABLE: countBeginnings, sumOfEndings, countEndings -/
/-- the table of beginnings when the sets below k have handed on; how many of them are ideals -/
def cbS (bl : Nat → Nat) (n : Nat) : Nat → (Nat → Int64) × Nat
  | 0 => (vp_updL (fun _ => 0) 0 1, 0)
  | k + 1 => if (cbS bl n k).1 k = 0 then cbS bl n k else (hoS bl k (ndf (2 ^ n - 1) k) ((cbS bl n k).1 k) (cbS bl n k).1 n, (cbS bl n k).2 + 1)
def rBeg (bl : Nat → Nat) (n : Nat) : Nat → Int64 := (cbS bl n (2 ^ n)).1
def rIdl (bl : Nat → Nat) (n : Nat) : Nat := (cbS bl n (2 ^ n)).2
theorem pow_le14 {n : Nat} (hn : n ≤ 14) : 2 ^ n ≤ 16384 := Nat.pow_le_pow_right (n := 2) (by decide) hn
set_option maxHeartbeats 4000000 in
set_option maxRecDepth 100000 in
theorem c_countBeginnings (K : zK) (r o b a g e : Nat) (bl ab : Nat → Nat) (n : Nat) (ver : Int32) (B E : Nat → Int64) (cap : Nat) (idl bs es : Int32) (hn : n ≤ 14) (hb : ∀ j, bl j < 2 ^ 14) (hcap : 2 ^ n ≤ cap) (hc : cap ≤ 16384) :
    zD K yX6_countBeginnings cX6_countBeginnings 3 none (zq 1 0 0 26) [.ref r] (wR K r o b a g e bl ab n ver B E cap idl bs es) none (wR K r o b a g e bl ab n ver (rBeg bl n) E cap (nI (rIdl bl n)) bs es) := by
  have hp : 0 < 2 ^ n := Nat.two_pow_pos n
  have hp14 := pow_le14 hn
  refine zo (by decide) (Nat.le_of_ble_eq_true rfl) fun x C R _ => ?_
  have loop : ∀ mm k, k + mm = 2 ^ n → zv_V x (gz K (zq 1 0 0 26) 3 cX6_countBeginnings yX6_countBeginnings.cls) 30 [(0, .ref r), (1, .int (nI (2 ^ n - 1))), (2, .int (nI k))] [] (wR K r o b a g e bl ab n ver (cbS bl n k).1 E cap (nI (cbS bl n k).2) bs es) 0 0 := by
    intro mm
    induction mm with
    | zero =>
      intro k hk
      have e1 : k = 2 ^ n := by omega
      subst e1
      refine zv_go C okX6_countBeginnings [] 20 ?_
      refine ⟨fun _ => ?_, fun h => absurd (nI_lt (by omega) (by omega)) h⟩
      exact zr R () [0, 1, 2, 3, 4, 5] none _ rfl rfl trivial rfl rfl (Nat.le_refl _) (Nat.le_refl _) dzX6_countBeginnings_72
    | succ mm ih =>
      intro k hk
      have ec : (nI k).toNatClampNeg = k := nI_clamp (by omega)
      refine zv_go C okX6_countBeginnings [30] 30 ?_
      refine ⟨fun h => absurd h (nI_nlt (by omega) (by omega)), fun _ => ⟨rfl, ⟨rfl, rfl⟩, vp_in_nI (by omega) (by omega), fun h => ?_, fun h => ⟨rfl, rfl, ?_⟩⟩⟩
      · have h : lg_cmp ((cbS bl n k).1 (nI k).toNatClampNeg) 0 = 0 := h
        rw [lg_c0, ec] at h
        have e2 : cbS bl n (k + 1) = cbS bl n k := by rw [cbS, if_pos h]
        exact zv_to C (lv' := [(0, .ref r), (1, .int (nI (2 ^ n - 1))), (2, .int (nI (k + 1)))]) (by rw [← nI_1] <;> rfl) rfl (ws' := wR K r o b a g e bl ab n ver (cbS bl n (k + 1)).1 E cap (nI (cbS bl n (k + 1)).2) bs es) (by rw [e2]) (ih (k + 1) (by omega))
      · have h : ¬ lg_cmp ((cbS bl n k).1 (nI k).toNatClampNeg) 0 = 0 := h
        rw [lg_c0, ec] at h
        have e2 : cbS bl n (k + 1) = (hoS bl k (ndf (2 ^ n - 1) k) ((cbS bl n k).1 k) (cbS bl n k).1 n, (cbS bl n k).2 + 1) := by rw [cbS, if_neg h]
        refine zv_to C rfl (st' := [.int (nI (ndf (2 ^ n - 1) k)), .int (nI k), .ref r]) (by rw [← nb_not] <;> rfl) (ws' := wR K r o b a g e bl ab n ver (cbS bl n k).1 E cap (nI ((cbS bl n k).2 + 1)) bs es) (by rw [← nI_1] <;> rfl) ?_
        refine zv_callV C (c_handOn K r o b a g e bl ab n ver (cbS bl n k).1 E cap (nI ((cbS bl n k).2 + 1)) bs es (s := k) (mis := ndf (2 ^ n - 1) k) (by omega) (Nat.lt_of_le_of_lt (ndf_le _ _) (nb_all_lt hn)) hn hb hcap hc) (zw_V inX6_handOn kX6_89 ⟨by decide, by decide⟩) [0, 1, 2, 3, 4, 5] 0 rfl rfl rfl rfl (fun _ => Nat.le_refl _) rfl rfl (by decide) dzX6_countBeginnings_63 (by decide) (by decide) rfl (fun _ _ => ?_)
        refine zv_go C okX6_countBeginnings [30] 30 ?_
        exact zv_to C (lv' := [(0, .ref r), (1, .int (nI (2 ^ n - 1))), (2, .int (nI (k + 1)))]) (by rw [← nI_1] <;> rfl) rfl (ws' := wR K r o b a g e bl ab n ver (cbS bl n (k + 1)).1 E cap (nI (cbS bl n (k + 1)).2) bs es) (by rw [e2] <;> rfl) (ih (k + 1) (by omega))
  refine zv_go C okX6_countBeginnings [] 2 ?_
  refine ⟨rfl, ?_⟩
  refine zv_callV C (c_all K o b a bl ab n ver hn) (zw_V inX4_all kX6_32 ⟨by decide, by decide⟩) [1, 2, 3] 1 rfl rfl rfl rfl (fun _ => Nat.le_refl _) rfl rfl (by decide) dzX6_countBeginnings_4 (by decide) (by decide) rfl (fun _ _ => ?_)
  refine zv_to C rfl rfl (ws' := wR K r o b a g e bl ab n ver B E cap idl bs es) rfl ?_
  refine zv_go C okX6_countBeginnings [] 4 ?_
  refine ⟨rfl, ?_⟩
  refine zv_callS C (c_fill K g cap B 0 (by omega)) (zw_S inJ7_fill_d0a16 kX6_83 ⟨by decide, by decide⟩) [4] rfl rfl (fun _ => Nat.le_refl _) rfl rfl (by decide) dzX6_countBeginnings_13 (by decide) (by decide) rfl (fun _ _ => ?_)
  refine zv_to C rfl rfl (ws' := wR K r o b a g e bl ab n ver (fun _ => 0) E cap idl bs es) rfl ?_
  refine zv_go C okX6_countBeginnings [30] 20 ?_
  refine ⟨rfl, ⟨rfl, rfl⟩, vp_in_nI (n := 0) (by omega) (by omega), rfl, ?_⟩
  exact loop (2 ^ n) 0 (by omega)
def seS (bl : Nat → Nat) (s mis : Nat) (E : Nat → Int64) : Nat → Int64
  | 0 => 0
  | k + 1 => if mayB bl mis k = true then seS bl s mis E k + E (s ||| 2 ^ k) else seS bl s mis E k
set_option maxHeartbeats 4000000 in
set_option maxRecDepth 100000 in
theorem c_sumOfEndings (K : zK) (r o b a g e : Nat) (bl ab : Nat → Nat) (n : Nat) (ver : Int32) (B E : Nat → Int64) (cap : Nat) (idl bs es : Int32) {s mis : Nat} (hs : s < 2 ^ n) (hm : mis < 2 ^ 14) (hn : n ≤ 14) (hb : ∀ j, bl j < 2 ^ 14) (hcap : 2 ^ n ≤ cap) (hc : cap ≤ 16384) :
    zD K yX6_sumOfEndings cX6_sumOfEndings 7 (some .long) (zq 0 0 0 0) [.ref r, .int (nI s), .int (nI mis)] (wR K r o b a g e bl ab n ver B E cap idl bs es) (some (.long (seS bl s mis E n))) (wR K r o b a g e bl ab n ver B E cap idl bs es) := by
  refine zo (by decide) (Nat.le_of_ble_eq_true rfl) fun x C R _ => ?_
  have loop : ∀ mm k (lv2 : zv_L), k + mm = n → (lv2 = [] ∨ ∃ z, lv2 = [(6, .int z)]) → zv_V x (gz K (zq 0 0 0 0) 7 cX6_sumOfEndings yX6_sumOfEndings.cls) 5 ([(0, .ref r), (1, .int (nI s)), (2, .int (nI mis)), (3, .long (seS bl s mis E k)), (5, .int (nI k))] ++ lv2) [] (wR K r o b a g e bl ab n ver B E cap idl bs es) 0 0 := by
    intro mm
    induction mm with
    | zero =>
      intro k lv2 hk hl2
      have e1 : k = n := by omega
      refine zv_drop C [0, 1, 2, 3, 4] (lv' := [(0, .ref r), (1, .int (nI s)), (2, .int (nI mis)), (3, .long (seS bl s mis E k)), (5, .int (nI k))]) (by rcases hl2 with rfl | ⟨z, rfl⟩ <;> rfl) ?_
      subst e1
      refine zv_go C okX6_sumOfEndings [] 20 ?_
      refine ⟨rfl, rfl, fun _ => ?_, fun h => absurd (nI_le (Nat.le_refl _) (by omega)) h⟩
      exact zr R () [0, 1, 2, 3, 4, 5] (some (.long _)) _ rfl rfl trivial rfl rfl (Nat.le_refl _) (Nat.le_refl _) dzX6_sumOfEndings_64
    | succ mm ih =>
      intro k lv2 hk hl2
      have htl : s ||| 2 ^ k < 2 ^ n := nb_lt_or hs (nb_lt_pow (by omega))
      refine zv_drop C [0, 1, 2, 3, 4] (lv' := [(0, .ref r), (1, .int (nI s)), (2, .int (nI mis)), (3, .long (seS bl s mis E k)), (5, .int (nI k))]) (by rcases hl2 with rfl | ⟨z, rfl⟩ <;> rfl) ?_
      refine zv_go C okX6_sumOfEndings [5] 60 ?_
      have ebl : (fun j => nI (bl j)) (nI k).toNatClampNeg &&& nI mis = nI (bl k &&& mis) := by rw [nI_clamp (by omega), nb_and]
      have etg : nI s ||| (1 : Int32) <<< (nI k &&& 31) = nI (s ||| 2 ^ k) := by rw [nb_1s k (by omega), nb_or]
      refine ⟨rfl, rfl, fun h => absurd h (nI_ge (by omega) (by omega)), fun _ => ⟨fun h => ?_, fun h => ⟨rfl, rfl, ⟨rfl, rfl⟩, vp_in_nI (by omega) (by decide), fun h2 => ?_, fun h2 => ⟨rfl, ⟨rfl, rfl⟩, ?_, ?_⟩⟩⟩⟩
      · rw [nb_t0 (Nat.lt_trans hm (by decide)) (by omega)] at h
        refine zv_to C (lv' := [(0, .ref r), (1, .int (nI s)), (2, .int (nI mis)), (3, .long (seS bl s mis E (k + 1))), (5, .int (nI (k + 1))), (6, .int ((1 : Int32) <<< (nI k &&& 31)))]) ?_ rfl rfl (ih (k + 1) [_] (by omega) (Or.inr ⟨_, rfl⟩))
        rw [seS, if_neg (by unfold mayB; rw [h]; simp), ← nI_1]
        rfl
      · have h2 : ¬ ((fun j => nI (bl j)) (nI k).toNatClampNeg &&& nI mis = 0) := h2
        rw [ebl, nb_0 (Nat.lt_of_le_of_lt Nat.and_le_left (Nat.lt_trans (hb k) (by decide)))] at h2
        refine zv_to C (lv' := [(0, .ref r), (1, .int (nI s)), (2, .int (nI mis)), (3, .long (seS bl s mis E (k + 1))), (5, .int (nI (k + 1))), (6, .int ((1 : Int32) <<< (nI k &&& 31)))]) ?_ rfl rfl (ih (k + 1) [_] (by omega) (Or.inr ⟨_, rfl⟩))
        rw [seS, if_neg (by unfold mayB; rw [decide_eq_false h2, Bool.and_false]; simp), ← nI_1]
        rfl
      · show vp_in (nI s ||| (1 : Int32) <<< (nI k &&& 31)) cap
        rw [etg]
        exact vp_in_nI (by omega) (by omega)
      · rw [nb_t1 (Nat.lt_trans hm (by decide)) (by omega)] at h
        have h2 : (fun j => nI (bl j)) (nI k).toNatClampNeg &&& nI mis = 0 := h2
        rw [ebl, nb_0 (Nat.lt_of_le_of_lt Nat.and_le_left (Nat.lt_trans (hb k) (by decide)))] at h2
        refine zv_to C (lv' := [(0, .ref r), (1, .int (nI s)), (2, .int (nI mis)), (3, .long (seS bl s mis E (k + 1))), (5, .int (nI (k + 1))), (6, .int ((1 : Int32) <<< (nI k &&& 31)))]) ?_ rfl rfl (ih (k + 1) [_] (by omega) (Or.inr ⟨_, rfl⟩))
        rw [seS, if_pos (by unfold mayB; rw [h, decide_eq_true h2]; rfl), ← nI_1]
        have ec : (nI s ||| (1 : Int32) <<< (nI k &&& 31)).toNatClampNeg = s ||| 2 ^ k := by rw [etg]; exact nI_clamp (by omega)
        show [_, _, _, (3, Value.long (seS bl s mis E k + E (nI s ||| (1 : Int32) <<< (nI k &&& 31)).toNatClampNeg)), _, _] = _
        rw [ec]
  refine zv_go C okX6_sumOfEndings [5] 20 ?_
  exact loop n 0 [] (by omega) (Or.inl rfl)
/-- the table of endings when the first m sets below all are done -/
def ceS (bl : Nat → Nat) (n : Nat) (B E : Nat → Int64) : Nat → (Nat → Int64)
  | 0 => vp_updL E (2 ^ n - 1) 1
  | m + 1 => if B (2 ^ n - 1 - (m + 1)) = 0 then ceS bl n B E m else vp_updL (ceS bl n B E m) (2 ^ n - 1 - (m + 1)) (seS bl (2 ^ n - 1 - (m + 1)) (ndf (2 ^ n - 1) (2 ^ n - 1 - (m + 1))) (ceS bl n B E m) n)
set_option maxHeartbeats 4000000 in
set_option maxRecDepth 100000 in
theorem c_countEndings (K : zK) (r o b a g e : Nat) (bl ab : Nat → Nat) (n : Nat) (ver : Int32) (B E : Nat → Int64) (cap : Nat) (idl bs es : Int32) (hn : n ≤ 14) (hb : ∀ j, bl j < 2 ^ 14) (hcap : 2 ^ n ≤ cap) (hc : cap ≤ 16384) :
    zD K yX6_countEndings cX6_countEndings 3 none (zq 1 0 0 26) [.ref r] (wR K r o b a g e bl ab n ver B E cap idl bs es) none (wR K r o b a g e bl ab n ver B (ceS bl n B E (2 ^ n - 1)) cap idl bs es) := by
  have hp : 0 < 2 ^ n := Nat.two_pow_pos n
  have hp14 := pow_le14 hn
  refine zo (by decide) (Nat.le_of_ble_eq_true rfl) fun x C R _ => ?_
  have loop : ∀ k m, k + m = 2 ^ n - 1 → zv_V x (gz K (zq 1 0 0 26) 3 cX6_countEndings yX6_countEndings.cls) 19 [(0, .ref r), (1, .int (nI (2 ^ n - 1))), (2, .int (nI k - 1))] [] (wR K r o b a g e bl ab n ver B (ceS bl n B E m) cap idl bs es) 0 0 := by
    intro k
    induction k with
    | zero =>
      intro m hk
      have e1 : m = 2 ^ n - 1 := by omega
      subst e1
      refine zv_go C okX6_countEndings [] 20 ?_
      refine ⟨fun _ => ?_, fun h => absurd (by decide) h⟩
      exact zr R () [0, 1, 2, 3, 4, 5] none _ rfl rfl trivial rfl rfl (Nat.le_refl _) (Nat.le_refl _) dzX6_countEndings_56
    | succ k ih =>
      intro m hk
      have ek : nI (k + 1) - 1 = nI k := nI_pred k
      have ek2 : nI k + (-1) = nI k - 1 := by rw [Int32.sub_eq_add_neg]
      have ec : (nI k).toNatClampNeg = k := nI_clamp (by omega)
      have ekm : 2 ^ n - 1 - (m + 1) = k := by omega
      refine zv_to C (lv' := [(0, .ref r), (1, .int (nI (2 ^ n - 1))), (2, .int (nI k))]) (by rw [ek]) rfl rfl ?_
      refine zv_go C okX6_countEndings [19] 30 ?_
      refine ⟨fun h => absurd h (nI_pos (by omega)), fun _ => ⟨rfl, ⟨rfl, rfl⟩, vp_in_nI (by omega) (by omega), fun h => ?_, fun h => ⟨rfl, ?_⟩⟩⟩
      · have h : lg_cmp (B (nI k).toNatClampNeg) 0 = 0 := h
        rw [lg_c0, ec] at h
        exact zv_to C (lv' := [(0, .ref r), (1, .int (nI (2 ^ n - 1))), (2, .int (nI k - 1))]) (by rw [← ek2] <;> rfl) rfl (ws' := wR K r o b a g e bl ab n ver B (ceS bl n B E (m + 1)) cap idl bs es) (by rw [ceS, ekm, if_pos h]) (ih (m + 1) (by omega))
      · have h : ¬ lg_cmp (B (nI k).toNatClampNeg) 0 = 0 := h
        rw [lg_c0, ec] at h
        refine zv_to C rfl (st' := [.int (nI (ndf (2 ^ n - 1) k)), .int (nI k), .ref r, .int (nI k), .ref e]) (by rw [← nb_not] <;> rfl) rfl ?_
        refine zv_callV C (c_sumOfEndings K r o b a g e bl ab n ver B (ceS bl n B E m) cap idl bs es (s := k) (mis := ndf (2 ^ n - 1) k) (by omega) (Nat.lt_of_le_of_lt (ndf_le _ _) (nb_all_lt hn)) hn hb hcap hc) (zw_V inX6_sumOfEndings kX6_97 ⟨by decide, by decide⟩) [0, 1, 2, 3, 4, 5] 0 rfl rfl rfl rfl (fun _ => Nat.le_refl _) (rest := [.int (nI k), .ref e]) rfl rfl (Nat.le_of_ble_eq_true rfl) dzX6_countEndings_46 (by decide) (by decide) rfl (fun _ _ => ?_)
        refine zv_to C rfl rfl (ws' := wR K r o b a g e bl ab n ver B (ceS bl n B E m) cap idl bs es) rfl ?_
        refine zv_go C okX6_countEndings [19] 30 ?_
        refine ⟨⟨rfl, rfl⟩, vp_in_nI (by omega) (by omega), ?_⟩
        refine zv_to C (lv' := [(0, .ref r), (1, .int (nI (2 ^ n - 1))), (2, .int (nI k - 1))]) (by rw [← ek2] <;> rfl) rfl (ws' := wR K r o b a g e bl ab n ver B (ceS bl n B E (m + 1)) cap idl bs es) ?_ (ih (m + 1) (by omega))
        rw [ceS, ekm, if_neg h]
        show [_, _, _, _, _, (e, Sum.inl (cJ K, cap, Sum.inr (Sum.inl (vp_updL (ceS bl n B E m) (nI k).toNatClampNeg _))))] = _
        rw [ec]
  refine zv_go C okX6_countEndings [] 2 ?_
  refine ⟨rfl, ?_⟩
  refine zv_callV C (c_all K o b a bl ab n ver hn) (zw_V inX4_all kX6_32 ⟨by decide, by decide⟩) [1, 2, 3] 1 rfl rfl rfl rfl (fun _ => Nat.le_refl _) rfl rfl (by decide) dzX6_countEndings_4 (by decide) (by decide) rfl (fun _ _ => ?_)
  refine zv_to C rfl rfl (ws' := wR K r o b a g e bl ab n ver B E cap idl bs es) rfl ?_
  refine zv_go C okX6_countEndings [19] 20 ?_
  refine ⟨rfl, ⟨rfl, rfl⟩, vp_in_nI (by omega) (by omega), ?_⟩
  refine zv_to C (lv' := [(0, .ref r), (1, .int (nI (2 ^ n - 1))), (2, .int (nI (2 ^ n - 1) - 1))]) rfl rfl (ws' := wR K r o b a g e bl ab n ver B (ceS bl n B E 0) cap idl bs es) ?_ (loop (2 ^ n - 1) 0 (by omega))
  show [_, _, _, _, _, (e, Sum.inl (cJ K, cap, Sum.inr (Sum.inl (vp_updL E (nI (2 ^ n - 1)).toNatClampNeg 1))))] = _
  rw [nI_clamp (by omega)]
  rfl
