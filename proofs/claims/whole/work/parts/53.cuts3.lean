/-! CUT LIST: refresh, length, has, setOf, numberOfLeast -/
def capR (seen ver : Int32) (bl ab : Nat → Nat) (n cap : Nat) : Nat := if seen = ver then cap else capA cap (cstop bl ab n + 1)
theorem capR_le (seen ver : Int32) (bl ab : Nat → Nat) (n cap : Nat) : cap ≤ capR seen ver bl ab n cap := by
  unfold capR
  split
  · exact Nat.le_refl _
  · exact capA_mono cap (Nat.zero_le _)
theorem capR_hi (seen ver : Int32) (bl ab : Nat → Nat) {n cap : Nat} (hn : n ≤ 14) (h0 : 0 < cap) (hc : cap ≤ 32768) : capR seen ver bl ab n cap ≤ 32768 := by
  unfold capR
  split
  · exact hc
  · have h1 := cstop_le bl ab n
    have h2 := nb_all_lt hn
    exact (capA_ok h0 hc _ (by omega)).2.2
/-- the room of a refresh -/
abbrev zqC (f : Nat) (seen ver : Int32) (bl ab : Nat → Nat) (n cap l : Nat) : Room := zq f (capR seen ver bl ab n cap - cap) (2 * (capR seen ver bl ab n cap - cap)) l
set_option maxHeartbeats 4000000 in
set_option maxRecDepth 100000 in
theorem c_clRefresh (K : zK) (c o b a y : Nat) (bl ab : Nat → Nat) (n : Nat) (ver : Int32) (sf : Nat → Int32) (cap : Nat) (len seen : Int32) (hn : n ≤ 14) (h0 : 0 < cap) (hcap : cap ≤ 32768) (hs : seen = ver → clV bl ab n len sf) :
    zM (S := Nat × (Nat → Int32)) K yX0_refresh cX0_refresh 1 none (zqC 4 seen ver bl ab n cap 126) [.ref c] (wC K c o b a y bl ab n ver sf cap len seen) (fun u => clV bl ab n (nI (cstop bl ab n + 1)) u.2) (fun _ => none) (fun u => wC K c o b a u.1 bl ab n ver u.2 (capR seen ver bl ab n cap) (nI (cstop bl ab n + 1)) ver) := by
  refine zo (by decide) (Nat.le_of_ble_eq_true rfl) fun x C R _ => ?_
  refine zv_go C okX0_refresh [] 20 ?_
  refine ⟨rfl, rfl, rfl, fun h => ?_, fun h => ⟨rfl, rfl, rfl, ?_⟩⟩
  · have h : seen = ver := h
    subst h
    have hv := hs rfl
    have e : capR seen seen bl ab n cap = cap := if_pos rfl
    exact zr R (y, sf) [0, 1, 2, 3, 4] none (wC K c o b a y bl ab n seen sf cap len seen) rfl (by rw [hv.1, e]) ⟨rfl, hv.2⟩ rfl rfl (Nat.zero_le _) (Nat.zero_le _) dzX0_refresh_29
  · have h : ¬ seen = ver := h
    have e : capR seen ver bl ab n cap = capA cap (cstop bl ab n + 1) := if_neg h
    refine zv_callV C (c_list K c o b a y bl ab n ver sf cap len ver hn h0 hcap) (zw_V inX0_list kX0_38 ⟨by show 3 + 1 ≤ 4; omega, by show 8 + (4 + 11) + 103 ≤ 126; omega⟩) [0, 1, 2, 3, 4] 0 rfl rfl rfl rfl (fun _ => Nat.le_refl _) rfl rfl (by decide) dzX0_refresh_26 (by show 0 + (capA cap (cstop bl ab n + 1) - cap) ≤ capR seen ver bl ab n cap - cap; rw [e]; omega) (by show 0 + 2 * (capA cap (cstop bl ab n + 1) - cap) ≤ 2 * (capR seen ver bl ab n cap - cap); rw [e]; omega) rfl (fun u hu => ?_)
    exact zr R u [0, 1, 2, 3, 4] none (wC K c o b a u.1 bl ab n ver u.2 (capA cap (cstop bl ab n + 1)) (nI (cstop bl ab n + 1)) ver) rfl (by rw [e]) hu rfl rfl (by show 0 + (capA cap (cstop bl ab n + 1) - cap) ≤ capR seen ver bl ab n cap - cap; rw [e]; omega) (by show 0 + 2 * (capA cap (cstop bl ab n + 1) - cap) ≤ 2 * (capR seen ver bl ab n cap - cap); rw [e]; omega) dzX0_refresh_29
set_option maxHeartbeats 4000000 in
set_option maxRecDepth 100000 in
theorem c_clLength (K : zK) (c o b a y : Nat) (bl ab : Nat → Nat) (n : Nat) (ver : Int32) (sf : Nat → Int32) (cap : Nat) (len seen : Int32) (hn : n ≤ 14) (h0 : 0 < cap) (hcap : cap ≤ 32768) (hs : seen = ver → clV bl ab n len sf) :
    zM (S := Nat × (Nat → Int32)) K yX0_length cX0_length 1 (some .int) (zqC 5 seen ver bl ab n cap 146) [.ref c] (wC K c o b a y bl ab n ver sf cap len seen) (fun u => clV bl ab n (nI (cstop bl ab n + 1)) u.2) (fun _ => some (.int (nI (cstop bl ab n + 1)))) (fun u => wC K c o b a u.1 bl ab n ver u.2 (capR seen ver bl ab n cap) (nI (cstop bl ab n + 1)) ver) := by
  refine zo (by decide) (Nat.le_of_ble_eq_true rfl) fun x C R _ => ?_
  refine zv_go C okX0_length [] 1 ?_
  refine zv_callV C (c_clRefresh K c o b a y bl ab n ver sf cap len seen hn h0 hcap hs) (zw_V inX0_refresh kX0_23 ⟨by show 4 + 1 ≤ 5; omega, by show 8 + (1 + 11) + 126 ≤ 146; omega⟩) [0, 1, 2, 3, 4] 0 rfl rfl rfl rfl (fun _ => Nat.le_refl _) rfl rfl (by decide) dzX0_length_1 (Nat.le_of_eq (Nat.zero_add _)) (Nat.le_of_eq (Nat.zero_add _)) rfl (fun u hu => ?_)
  refine zv_to C rfl rfl (ws' := wC K c o b a u.1 bl ab n ver u.2 (capR seen ver bl ab n cap) (nI (cstop bl ab n + 1)) ver) rfl ?_
  refine zv_go C okX0_length [] 20 ?_
  refine ⟨rfl, ?_⟩
  exact zr R u [0, 1, 2, 3, 4] (some (.int _)) _ rfl rfl hu rfl rfl (Nat.le_of_eq (Nat.zero_add _)) (Nat.le_of_eq (Nat.zero_add _)) dzX0_length_8
set_option maxHeartbeats 4000000 in
set_option maxRecDepth 100000 in
theorem c_clHas (K : zK) (c o b a y : Nat) (bl ab : Nat → Nat) (n : Nat) (ver : Int32) (sf : Nat → Int32) (cap : Nat) (len seen k : Int32) (hn : n ≤ 14) (h0 : 0 < cap) (hcap : cap ≤ 32768) (hs : seen = ver → clV bl ab n len sf) :
    zM (S := Nat × (Nat → Int32)) K yX0_has cX0_has 2 (some .boolean) (zqC 5 seen ver bl ab n cap 146) [.ref c, .int k] (wC K c o b a y bl ab n ver sf cap len seen) (fun u => clV bl ab n (nI (cstop bl ab n + 1)) u.2) (fun _ => some (.int (bI (hasb (cstop bl ab n + 1) k)))) (fun u => wC K c o b a u.1 bl ab n ver u.2 (capR seen ver bl ab n cap) (nI (cstop bl ab n + 1)) ver) := by
  refine zo (by decide) (Nat.le_of_ble_eq_true rfl) fun x C R _ => ?_
  refine zv_go C okX0_has [] 1 ?_
  refine zv_callV C (c_clRefresh K c o b a y bl ab n ver sf cap len seen hn h0 hcap hs) (zw_V inX0_refresh kX0_23 ⟨by show 4 + 1 ≤ 5; omega, by show 8 + (1 + 11) + 126 ≤ 146; omega⟩) [0, 1, 2, 3, 4] 0 rfl rfl rfl rfl (fun _ => Nat.le_refl _) rfl rfl (by decide) dzX0_has_1 (Nat.le_of_eq (Nat.zero_add _)) (Nat.le_of_eq (Nat.zero_add _)) rfl (fun u hu => ?_)
  refine zv_to C rfl rfl (ws' := wC K c o b a u.1 bl ab n ver u.2 (capR seen ver bl ab n cap) (nI (cstop bl ab n + 1)) ver) rfl ?_
  refine zv_go C okX0_has [] 20 ?_
  refine ⟨fun h => ?_, fun h => ⟨rfl, fun h2 => ?_, fun h2 => ?_⟩⟩
  · exact zr R u [0, 1, 2, 3, 4] (some (.int 0)) _ (by unfold hasb; rw [decide_eq_false]; rfl; exact fun q => absurd q.1 (Int32.not_le.mpr h)) rfl hu rfl rfl (Nat.le_of_eq (Nat.zero_add _)) (Nat.le_of_eq (Nat.zero_add _)) ⟨rfl, dzX0_has_21⟩
  · exact zr R u [0, 1, 2, 3, 4] (some (.int 0)) _ (by unfold hasb; rw [decide_eq_false]; rfl; exact fun q => absurd q.2 (Int32.not_lt.mpr h2)) rfl hu rfl rfl (Nat.le_of_eq (Nat.zero_add _)) (Nat.le_of_eq (Nat.zero_add _)) ⟨rfl, dzX0_has_21⟩
  · exact zr R u [0, 1, 2, 3, 4] (some (.int 1)) _ (by unfold hasb; rw [decide_eq_true]; rfl; exact ⟨Int32.not_lt.mp h, Int32.not_le.mp h2⟩) rfl hu rfl rfl (Nat.le_of_eq (Nat.zero_add _)) (Nat.le_of_eq (Nat.zero_add _)) ⟨rfl, dzX0_has_21⟩
set_option maxHeartbeats 4000000 in
set_option maxRecDepth 100000 in
theorem c_setOf (K : zK) (c o b a y : Nat) (bl ab : Nat → Nat) (n : Nat) (ver : Int32) (sf : Nat → Int32) (cap : Nat) (len seen : Int32) {k : Nat} (hk : k < cap) (hcap : cap ≤ 32768) :
    zD K yX0_setOf cX0_setOf 2 (some .int) (zq 0 0 0 0) [.ref c, .int (nI k)] (wC K c o b a y bl ab n ver sf cap len seen) (some (.int (sf k))) (wC K c o b a y bl ab n ver sf cap len seen) := by
  refine zo (by decide) (Nat.le_of_ble_eq_true rfl) fun x C R _ => ?_
  refine zv_go C okX0_setOf [] 20 ?_
  refine ⟨rfl, ⟨rfl, rfl⟩, vp_in_nI hk (by omega), ?_⟩
  exact zr R () [0, 1, 2, 3, 4] (some (.int _)) _ (by rw [nI_clamp (by omega)]) rfl trivial rfl rfl (Nat.le_refl _) (Nat.le_refl _) dzX0_setOf_6
/-- the number of the first cut that is w -/
def nol (bl ab : Nat → Nat) (n w : Nat) : Nat → Option Nat
  | 0 => none
  | m + 1 => if cutv bl ab n (cstop bl ab n + 1 - (m + 1)) = w then some (cstop bl ab n + 1 - (m + 1)) else nol bl ab n w m
theorem cutv_lt {bl ab : Nat → Nat} {n j : Nat} (hn : n ≤ 14) : cutv bl ab n j < 2 ^ 14 := by
  unfold cutv
  split
  · exact cseq_lt hn j
  · exact nb_all_lt hn
theorem capR_ge {seen ver : Int32} {bl ab : Nat → Nat} {n cap : Nat} (hn : n ≤ 14) (h0 : 0 < cap) (hcap : cap ≤ 32768) (hs : seen = ver → cstop bl ab n + 1 ≤ cap) : cstop bl ab n + 1 ≤ capR seen ver bl ab n cap := by
  unfold capR
  split
  · exact hs (by assumption)
  · have h1 := cstop_le bl ab n
    have h2 := nb_all_lt hn
    have h3 : 0 < 2 ^ n := Nat.two_pow_pos n
    exact (capA_ok h0 hcap (cstop bl ab n + 1) (by omega)).1
set_option maxHeartbeats 4000000 in
set_option maxRecDepth 100000 in
theorem c_numberOfLeast (K : zK) (c o b a y : Nat) (bl ab : Nat → Nat) (n : Nat) (ver : Int32) (sf : Nat → Int32) (cap : Nat) (len seen : Int32) {s : Nat} (hls : s < 2 ^ 14) (hn : n ≤ 14) (h0 : 0 < cap) (hcap : cap ≤ 32768) (hs : seen = ver → clV bl ab n len sf ∧ cstop bl ab n + 1 ≤ cap) :
    zM (S := Nat × (Nat → Int32)) K yX0_numberOfLeast cX0_numberOfLeast 4 (some .int) (zqC 5 seen ver bl ab n cap 146) [.ref c, .int (nI s)] (wC K c o b a y bl ab n ver sf cap len seen) (fun u => clV bl ab n (nI (cstop bl ab n + 1)) u.2) (fun _ => some (.int (oI (nol bl ab n (clo bl ab n s) (cstop bl ab n + 1))))) (fun u => wC K c o b a u.1 bl ab n ver u.2 (capR seen ver bl ab n cap) (nI (cstop bl ab n + 1)) ver) := by
  have hall := nb_all_lt hn
  have hst := cstop_le bl ab n
  have hp : 0 < 2 ^ n := Nat.two_pow_pos n
  have hge := capR_ge hn h0 hcap (fun q => (hs q).2)
  have hhi := capR_hi seen ver bl ab hn h0 hcap
  refine zo (by decide) (Nat.le_of_ble_eq_true rfl) fun x C R _ => ?_
  refine zv_go C okX0_numberOfLeast [] 1 ?_
  refine zv_callV C (c_clRefresh K c o b a y bl ab n ver sf cap len seen hn h0 hcap (fun q => (hs q).1)) (zw_V inX0_refresh kX0_23 ⟨by show 4 + 1 ≤ 5; omega, by show 8 + (1 + 11) + 126 ≤ 146; omega⟩) [0, 1, 2, 3, 4] 0 rfl rfl rfl rfl (fun _ => Nat.le_refl _) rfl rfl (by decide) dzX0_numberOfLeast_1 (Nat.le_of_eq (Nat.zero_add _)) (Nat.le_of_eq (Nat.zero_add _)) rfl (fun u hu => ?_)
  refine zv_to C rfl rfl (ws' := wC K c o b a u.1 bl ab n ver u.2 (capR seen ver bl ab n cap) (nI (cstop bl ab n + 1)) ver) rfl ?_
  refine zv_wide C (ce' := capR seen ver bl ab n cap - cap) (sl' := 2 * (capR seen ver bl ab n cap - cap)) (Nat.le_of_eq (Nat.zero_add _)) (Nat.le_of_eq (Nat.zero_add _)) ?_
  refine zv_go C okX0_numberOfLeast [] 2 ?_
  refine zv_callV C (c_close K c o b a u.1 bl ab n ver u.2 (capR seen ver bl ab n cap) (nI (cstop bl ab n + 1)) ver hls hn) (zw_V inX0_close kX0_29 ⟨by show 1 + 1 ≤ 5; omega, by show 8 + (5 + 11) + 21 ≤ 146; omega⟩) [0, 1, 2, 3, 4] 0 rfl rfl rfl rfl (fun _ => Nat.le_refl _) rfl rfl (by decide) dzX0_numberOfLeast_6 (Nat.le_refl _) (Nat.le_refl _) rfl (fun _ _ => ?_)
  have loop : ∀ mm, mm ≤ cstop bl ab n + 1 → nol bl ab n (clo bl ab n s) mm = nol bl ab n (clo bl ab n s) (cstop bl ab n + 1) → zv_V x (gz K (zqC 5 seen ver bl ab n cap 146) 4 cX0_numberOfLeast yX0_numberOfLeast.cls) 12 [(0, .ref c), (1, .int (nI s)), (2, .int (nI (clo bl ab n s))), (3, .int (nI (cstop bl ab n + 1 - mm)))] [] (wC K c o b a u.1 bl ab n ver u.2 (capR seen ver bl ab n cap) (nI (cstop bl ab n + 1)) ver) (capR seen ver bl ab n cap - cap) (2 * (capR seen ver bl ab n cap - cap)) := by
    intro mm
    induction mm with
    | zero =>
      intro _ he
      refine zv_go C okX0_numberOfLeast [] 20 ?_
      refine ⟨rfl, fun _ => ?_, fun h => absurd (nI_le (by omega) (by omega)) h⟩
      exact zr R u [0, 1, 2, 3, 4] (some (.int (-1))) _ (by rw [← he] <;> rfl) rfl hu rfl rfl (Nat.le_refl _) (Nat.le_refl _) dzX0_numberOfLeast_39
    | succ mm ih =>
      intro hm he
      have enx : nI (cstop bl ab n + 1 - (mm + 1)) + 1 = nI (cstop bl ab n + 1 - mm) := by rw [nI_1]; congr 1; omega
      refine zv_go C okX0_numberOfLeast [12] 20 ?_
      refine ⟨rfl, fun h => absurd h (nI_ge (by omega) (by omega)), fun _ => ⟨rfl, ⟨rfl, rfl⟩, vp_in_nI (by omega) (by omega), fun h => ?_, fun h => ?_⟩⟩
      · have h : ¬ u.2 (nI (cstop bl ab n + 1 - (mm + 1))).toNatClampNeg = nI (clo bl ab n s) := h
        rw [nI_clamp (by omega), hu.2 _ (by omega), nb_inj (Nat.lt_trans (cutv_lt hn) (by decide)) (Nat.lt_trans (clo_lt hn) (by decide))] at h
        rw [nol, if_neg h] at he
        exact zv_to C (lv' := [(0, .ref c), (1, .int (nI s)), (2, .int (nI (clo bl ab n s))), (3, .int (nI (cstop bl ab n + 1 - mm)))]) (by rw [← enx] <;> rfl) rfl rfl (ih (by omega) he)
      · have h : u.2 (nI (cstop bl ab n + 1 - (mm + 1))).toNatClampNeg = nI (clo bl ab n s) := h
        rw [nI_clamp (by omega), hu.2 _ (by omega), nb_inj (Nat.lt_trans (cutv_lt hn) (by decide)) (Nat.lt_trans (clo_lt hn) (by decide))] at h
        rw [nol, if_pos h] at he
        exact zr R u [0, 1, 2, 3, 4] (some (.int _)) _ (by rw [← he] <;> rfl) rfl hu rfl rfl (Nat.le_refl _) (Nat.le_refl _) dzX0_numberOfLeast_31
  refine zv_go C okX0_numberOfLeast [12] 20 ?_
  exact zv_to C (lv' := [(0, .ref c), (1, .int (nI s)), (2, .int (nI (clo bl ab n s))), (3, .int (nI (cstop bl ab n + 1 - (cstop bl ab n + 1))))]) (by rw [Nat.sub_self] <;> rfl) rfl rfl (loop _ (Nat.le_refl _) rfl)
