/-! ROW TABLE: makeRoom, handOn, countBeginnings -/
abbrev wR (K : zK) (r o b a g e : Nat) (bl ab : Nat → Nat) (n : Nat) (ver : Int32) (B E : Nat → Int64) (cap : Nat) (idl bs es : Int32) : va_W := [(r, .inr (6, [.ref o, .ref g, .ref e, .int idl, .int bs, .int es])), (o, .inr (4, [.ref b, .ref a, .int (nI n), .int ver])), (b, .inl (cI K, 14, .inl (fun j => nI (bl j)))), (a, .inl (cI K, 14, .inl (fun j => nI (ab j)))), (g, .inl (cJ K, cap, .inr (.inl B))), (e, .inl (cJ K, cap, .inr (.inl E)))]
def capM (cap sets : Nat) : Nat := if cap < sets then sets else cap
theorem capM_le (cap sets : Nat) : cap ≤ capM cap sets := by
  unfold capM
  split <;> omega
set_option maxHeartbeats 4000000 in
set_option maxRecDepth 100000 in
/-- rows of longs: 2 cells, twice as many slots as there are sets; counted by how much the room grows -/
theorem c_makeRoom (K : zK) (r o b a g e : Nat) (bl ab : Nat → Nat) (n : Nat) (ver : Int32) (B E : Nat → Int64) (cap sets : Nat) (idl bs es : Int32) (hc : cap ≤ 16384) (hs : sets ≤ 16384) (h2 : cap < sets → 2 * cap ≤ sets ∧ 2 ≤ cap) :
    zM (S := Nat × Nat × (Nat → Int64) × (Nat → Int64)) K yX6_makeRoom cX6_makeRoom 2 none (zq 0 (capM cap sets - cap) (4 * (capM cap sets - cap)) 0) [.ref r, .int (nI sets)] (wR K r o b a g e bl ab n ver B E cap idl bs es) (fun u => sets ≤ cap → u.2.2.1 = B ∧ u.2.2.2 = E) (fun _ => none) (fun u => wR K r o b a u.1 u.2.1 bl ab n ver u.2.2.1 u.2.2.2 (capM cap sets) idl bs es) := by
  refine zo (by decide) (Nat.le_of_ble_eq_true rfl) fun x C R _ => ?_
  refine zv_go C okX6_makeRoom [] 20 ?_
  refine ⟨rfl, ⟨rfl, rfl⟩, fun h => ?_, fun h => ?_⟩
  · have hle : sets ≤ cap := (nI_leI (by omega) (by omega)).mp h
    have e9 : capM cap sets = cap := if_neg (by omega)
    exact zr R (g, e, B, E) [0, 1, 2, 3, 4, 5] none (wR K r o b a g e bl ab n ver B E cap idl bs es) rfl (by rw [e9]) (fun _ => ⟨rfl, rfl⟩) rfl rfl (Nat.zero_le _) (Nat.zero_le _) dzX6_makeRoom_23
  · have hlt : cap < sets := by
      rcases Nat.lt_or_ge cap sets with q | q
      · exact q
      · exact absurd ((nI_leI (by omega) (by omega)).mpr q) h
    have e1 : capM cap sets = sets := if_pos hlt
    obtain ⟨q1, q2⟩ := h2 hlt
    refine zv_newa C (atype := .long) 1 1 (N' := sets) (a0 := (sets, .inr (.inl (fun _ => 0)))) rfl zk_arrJ rfl (fun _ => rfl) rfl (nI_pos (by omega)) (nI_clamp (by omega)) (by show sets * 8 ≤ _; omega) dzX6_makeRoom_11 (by show 0 + 1 ≤ capM cap sets - cap; rw [e1]; omega) (by show 0 + sets ≤ 4 * (capM cap sets - cap); rw [e1]; omega) rfl (fun u => ?_)
    refine zv_cells C [0, 1, 2, 3, 6, 5] rfl (ws' := [(r, .inr (6, [.ref o, .ref g, .ref e, .int idl, .int bs, .int es])), (o, .inr (4, [.ref b, .ref a, .int (nI n), .int ver])), (b, .inl (cI K, 14, .inl (fun j => nI (bl j)))), (a, .inl (cI K, 14, .inl (fun j => nI (ab j)))), (u, .inl (cJ K, sets, .inr (.inl (fun _ => 0)))), (e, .inl (cJ K, cap, .inr (.inl E)))]) rfl ?_
    refine zv_go C okX6_makeRoom [] 3 ?_
    refine ⟨rfl, ?_⟩
    refine zv_newa C (atype := .long) 1 1 (N' := sets) (a0 := (sets, .inr (.inl (fun _ => 0)))) rfl zk_arrJ rfl (fun _ => rfl) rfl (nI_pos (by omega)) (nI_clamp (by omega)) (by show sets * 8 ≤ _; omega) dzX6_makeRoom_18 (by show 0 + 1 + 1 ≤ capM cap sets - cap; rw [e1]; omega) (by show 0 + sets + sets ≤ 4 * (capM cap sets - cap); rw [e1]; omega) rfl (fun w => ?_)
    refine zv_cells C [0, 1, 2, 3, 4, 6] rfl (ws' := [(r, .inr (6, [.ref o, .ref u, .ref e, .int idl, .int bs, .int es])), (o, .inr (4, [.ref b, .ref a, .int (nI n), .int ver])), (b, .inl (cI K, 14, .inl (fun j => nI (bl j)))), (a, .inl (cI K, 14, .inl (fun j => nI (ab j)))), (u, .inl (cJ K, sets, .inr (.inl (fun _ => 0)))), (w, .inl (cJ K, sets, .inr (.inl (fun _ => 0))))]) rfl ?_
    refine zv_go C okX6_makeRoom [] 3 ?_
    refine ⟨rfl, ?_⟩
    exact zr R (u, w, fun _ => 0, fun _ => 0) [0, 1, 2, 3, 4, 5] none (wR K r o b a u w bl ab n ver (fun _ => 0) (fun _ => 0) sets idl bs es) rfl (by rw [e1]) (fun q => absurd q (by omega)) rfl rfl (by show 0 + 1 + 1 ≤ capM cap sets - cap; rw [e1]; omega) (by show 0 + sets + sets ≤ 4 * (capM cap sets - cap); rw [e1]; omega) dzX6_makeRoom_23
theorem lg_c0 (x : Int64) : lg_cmp x 0 = 0 ↔ x = 0 := lg_cmp_eq x 0
/-- may thing v come next, by the sets below: it is missing, and nothing below it is -/
def mayB (bl : Nat → Nat) (mis v : Nat) : Bool := mis.testBit v && decide (bl v &&& mis = 0)
def hoS (bl : Nat → Nat) (s mis : Nat) (ways : Int64) (B : Nat → Int64) : Nat → (Nat → Int64)
  | 0 => B
  | k + 1 => if mayB bl mis k = true then vp_updL (hoS bl s mis ways B k) (s ||| 2 ^ k) (hoS bl s mis ways B k (s ||| 2 ^ k) + ways) else hoS bl s mis ways B k
set_option maxHeartbeats 4000000 in
set_option maxRecDepth 100000 in
theorem c_handOn (K : zK) (r o b a g e : Nat) (bl ab : Nat → Nat) (n : Nat) (ver : Int32) (B E : Nat → Int64) (cap : Nat) (idl bs es : Int32) {s mis : Nat} (hs : s < 2 ^ n) (hm : mis < 2 ^ 14) (hn : n ≤ 14) (hb : ∀ j, bl j < 2 ^ 14) (hcap : 2 ^ n ≤ cap) (hc : cap ≤ 16384) :
    zD K yX6_handOn cX6_handOn 7 none (zq 0 0 0 0) [.ref r, .int (nI s), .int (nI mis)] (wR K r o b a g e bl ab n ver B E cap idl bs es) none (wR K r o b a g e bl ab n ver (hoS bl s mis (B s) B n) E cap idl bs es) := by
  refine zo (by decide) (Nat.le_of_ble_eq_true rfl) fun x C R _ => ?_
  have ecs : (nI s).toNatClampNeg = s := nI_clamp (by omega)
  have loop : ∀ mm k (lv2 : zv_L), k + mm = n → (lv2 = [] ∨ ∃ z, lv2 = [(6, .int z)]) → zv_V x (gz K (zq 0 0 0 0) 7 cX6_handOn yX6_handOn.cls) 10 ([(0, .ref r), (1, .int (nI s)), (2, .int (nI mis)), (3, .long (B s)), (5, .int (nI k))] ++ lv2) [] (wR K r o b a g e bl ab n ver (hoS bl s mis (B s) B k) E cap idl bs es) 0 0 := by
    intro mm
    induction mm with
    | zero =>
      intro k lv2 hk hl2
      have e1 : k = n := by omega
      refine zv_drop C [0, 1, 2, 3, 4] (lv' := [(0, .ref r), (1, .int (nI s)), (2, .int (nI mis)), (3, .long (B s)), (5, .int (nI k))]) (by rcases hl2 with rfl | ⟨z, rfl⟩ <;> rfl) ?_
      subst e1
      refine zv_go C okX6_handOn [] 20 ?_
      refine ⟨rfl, rfl, fun _ => ?_, fun h => absurd (nI_le (Nat.le_refl _) (by omega)) h⟩
      exact zr R () [0, 1, 2, 3, 4, 5] none _ rfl rfl trivial rfl rfl (Nat.le_refl _) (Nat.le_refl _) dzX6_handOn_69
    | succ mm ih =>
      intro k lv2 hk hl2
      have htl : s ||| 2 ^ k < 2 ^ n := nb_lt_or hs (nb_lt_pow (by omega))
      refine zv_drop C [0, 1, 2, 3, 4] (lv' := [(0, .ref r), (1, .int (nI s)), (2, .int (nI mis)), (3, .long (B s)), (5, .int (nI k))]) (by rcases hl2 with rfl | ⟨z, rfl⟩ <;> rfl) ?_
      refine zv_go C okX6_handOn [10] 60 ?_
      have ebl : (fun j => nI (bl j)) (nI k).toNatClampNeg &&& nI mis = nI (bl k &&& mis) := by rw [nI_clamp (by omega), nb_and]
      have etg : nI s ||| (1 : Int32) <<< (nI k &&& 31) = nI (s ||| 2 ^ k) := by rw [nb_1s k (by omega), nb_or]
      refine ⟨rfl, rfl, fun h => absurd h (nI_ge (by omega) (by omega)), fun _ => ⟨fun h => ?_, fun h => ⟨rfl, rfl, ⟨rfl, rfl⟩, vp_in_nI (by omega) (by decide), fun h2 => ?_, fun h2 => ⟨rfl, ⟨rfl, rfl⟩, ?_, ⟨rfl, rfl⟩, ?_, ?_⟩⟩⟩⟩
      · rw [nb_t0 (Nat.lt_trans hm (by decide)) (by omega)] at h
        refine zv_to C (lv' := [(0, .ref r), (1, .int (nI s)), (2, .int (nI mis)), (3, .long (B s)), (5, .int (nI (k + 1))), (6, .int ((1 : Int32) <<< (nI k &&& 31)))]) (by rw [← nI_1] <;> rfl) rfl (ws' := wR K r o b a g e bl ab n ver (hoS bl s mis (B s) B (k + 1)) E cap idl bs es) ?_ (ih (k + 1) [_] (by omega) (Or.inr ⟨_, rfl⟩))
        rw [hoS, if_neg (by unfold mayB; rw [h]; simp)]
      · have h2 : ¬ ((fun j => nI (bl j)) (nI k).toNatClampNeg &&& nI mis = 0) := h2
        rw [ebl, nb_0 (Nat.lt_of_le_of_lt Nat.and_le_left (Nat.lt_trans (hb k) (by decide)))] at h2
        refine zv_to C (lv' := [(0, .ref r), (1, .int (nI s)), (2, .int (nI mis)), (3, .long (B s)), (5, .int (nI (k + 1))), (6, .int ((1 : Int32) <<< (nI k &&& 31)))]) (by rw [← nI_1] <;> rfl) rfl (ws' := wR K r o b a g e bl ab n ver (hoS bl s mis (B s) B (k + 1)) E cap idl bs es) ?_ (ih (k + 1) [_] (by omega) (Or.inr ⟨_, rfl⟩))
        rw [hoS, if_neg (by unfold mayB; rw [decide_eq_false h2, Bool.and_false]; simp)]
      · show vp_in (nI s ||| (1 : Int32) <<< (nI k &&& 31)) cap
        rw [etg]
        exact vp_in_nI (by omega) (by omega)
      · show vp_in (nI s ||| (1 : Int32) <<< (nI k &&& 31)) cap
        rw [etg]
        exact vp_in_nI (by omega) (by omega)
      · rw [nb_t1 (Nat.lt_trans hm (by decide)) (by omega)] at h
        have h2 : (fun j => nI (bl j)) (nI k).toNatClampNeg &&& nI mis = 0 := h2
        rw [ebl, nb_0 (Nat.lt_of_le_of_lt Nat.and_le_left (Nat.lt_trans (hb k) (by decide)))] at h2
        refine zv_to C (lv' := [(0, .ref r), (1, .int (nI s)), (2, .int (nI mis)), (3, .long (B s)), (5, .int (nI (k + 1))), (6, .int ((1 : Int32) <<< (nI k &&& 31)))]) (by rw [← nI_1] <;> rfl) rfl (ws' := wR K r o b a g e bl ab n ver (hoS bl s mis (B s) B (k + 1)) E cap idl bs es) ?_ (ih (k + 1) [_] (by omega) (Or.inr ⟨_, rfl⟩))
        rw [hoS, if_pos (by unfold mayB; rw [h, decide_eq_true h2]; rfl)]
        have ec : (nI s ||| (1 : Int32) <<< (nI k &&& 31)).toNatClampNeg = s ||| 2 ^ k := by rw [etg]; exact nI_clamp (by omega)
        show [_, _, _, _, (g, Sum.inl (cJ K, cap, Sum.inr (Sum.inl (vp_updL (hoS bl s mis (B s) B k) (nI s ||| (1 : Int32) <<< (nI k &&& 31)).toNatClampNeg (hoS bl s mis (B s) B k (nI s ||| (1 : Int32) <<< (nI k &&& 31)).toNatClampNeg + B s))))), _] = _
        rw [ec]
  refine zv_go C okX6_handOn [10] 20 ?_
  refine ⟨rfl, ⟨rfl, rfl⟩, vp_in_nI (by omega) (by omega), ?_⟩
  refine zv_to C (lv' := [(0, .ref r), (1, .int (nI s)), (2, .int (nI mis)), (3, .long (B s)), (5, .int (nI 0))]) ?_ rfl rfl (loop n 0 [] (by omega) (Or.inl rfl))
  show [(0, Value.ref r), (1, .int (nI s)), (2, .int (nI mis)), (3, .long (B (nI s).toNatClampNeg)), (5, .int 0)] = _
  rw [ecs]
  rfl
