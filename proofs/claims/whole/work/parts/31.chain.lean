/-! LONGEST CHAIN -/
abbrev wL (K : zK) (c o b a y t : Nat) (bl ab : Nat → Nat) (n : Nat) (ver : Int32) (lf tf : Nat → Int32) (len seen : Int32) : va_W := [(c, .inr (1, [.ref o, .ref y, .ref t, .int len, .int seen])), (o, .inr (4, [.ref b, .ref a, .int (nI n), .int ver])), (b, .inl (cI K, 14, .inl (fun j => nI (bl j)))), (a, .inl (cI K, 14, .inl (fun j => nI (ab j)))), (y, .inl (cI K, 14, .inl lf)), (t, .inl (cI K, 14, .inl tf))]
def tpS (ab : Nat → Nat) (s : Nat) : Nat → Nat
  | 0 => 0
  | k + 1 => if s.testBit k = true ∧ ab k &&& s = 0 then tpS ab s k ||| 2 ^ k else tpS ab s k
theorem tpS_lt {ab : Nat → Nat} {s : Nat} : ∀ k, k ≤ 14 → tpS ab s k < 2 ^ 14
  | 0, _ => Nat.two_pow_pos 14
  | k + 1, h => by
    have h1 := tpS_lt (ab := ab) (s := s) k (by omega)
    unfold tpS
    split
    · exact nb_lt_or h1 (nb_lt_pow (by omega))
    · exact h1
set_option maxHeartbeats 4000000 in
set_option maxRecDepth 100000 in
theorem c_topsOf (K : zK) (c o b a y t : Nat) (bl ab : Nat → Nat) (n : Nat) (ver : Int32) (lf tf : Nat → Int32) (len seen : Int32) {s : Nat} (hs : s < 2 ^ 14) (hn : n ≤ 14) (ha : ∀ j, ab j < 2 ^ 14) :
    zD K yX1_topsOf cX1_topsOf 4 (some .int) (zq 0 0 0 0) [.ref c, .int (nI s)] (wL K c o b a y t bl ab n ver lf tf len seen) (some (.int (nI (tpS ab s n)))) (wL K c o b a y t bl ab n ver lf tf len seen) := by
  refine zo (by decide) (Nat.le_of_ble_eq_true rfl) fun x C R _ => ?_
  have loop : ∀ mm k, k + mm = n → zv_V x (gz K (zq 0 0 0 0) 4 cX1_topsOf yX1_topsOf.cls) 4 [(0, .ref c), (1, .int (nI s)), (2, .int (nI (tpS ab s k))), (3, .int (nI k))] [] (wL K c o b a y t bl ab n ver lf tf len seen) 0 0 := by
    intro mm
    induction mm with
    | zero =>
      intro k hk
      have e : k = n := by omega
      subst e
      refine zv_go C okX1_topsOf [] 20 ?_
      refine ⟨rfl, rfl, fun _ => ?_, fun h => absurd (nI_le (Nat.le_refl _) (by omega)) h⟩
      exact zr R () [0, 1, 2, 3, 4, 5] (some (.int _)) _ rfl rfl trivial rfl rfl (Nat.le_refl _) (Nat.le_refl _) dzX1_topsOf_50
    | succ mm ih =>
      intro k hk
      refine zv_go C okX1_topsOf [4] 50 ?_
      refine ⟨rfl, rfl, fun h => absurd h (nI_ge (by omega) (by omega)), fun _ => ⟨fun h => ?_, fun h => ⟨rfl, rfl, ⟨rfl, rfl⟩, vp_in_nI (by omega) (by decide), fun h2 => ?_, fun h2 => ?_⟩⟩⟩
      · rw [nb_t0 (Nat.lt_trans hs (by decide)) (by omega)] at h
        refine zv_to C (lv' := [(0, .ref c), (1, .int (nI s)), (2, .int (nI (tpS ab s (k + 1)))), (3, .int (nI (k + 1)))]) ?_ rfl rfl (ih (k + 1) (by omega))
        rw [tpS, if_neg (fun q => by rw [q.1] at h; cases h), ← nI_1]
        rfl
      · rw [nI_clamp (by omega), nb_and, nb_0 (Nat.lt_of_le_of_lt Nat.and_le_left (Nat.lt_trans (ha k) (by decide)))] at h2
        refine zv_to C (lv' := [(0, .ref c), (1, .int (nI s)), (2, .int (nI (tpS ab s (k + 1)))), (3, .int (nI (k + 1)))]) ?_ rfl rfl (ih (k + 1) (by omega))
        rw [tpS, if_neg (fun q => h2 q.2), ← nI_1]
        rfl
      · rw [nb_t1 (Nat.lt_trans hs (by decide)) (by omega)] at h
        rw [nI_clamp (by omega), nb_and, nb_0 (Nat.lt_of_le_of_lt Nat.and_le_left (Nat.lt_trans (ha k) (by decide)))] at h2
        refine zv_to C (lv' := [(0, .ref c), (1, .int (nI s)), (2, .int (nI (tpS ab s (k + 1)))), (3, .int (nI (k + 1)))]) ?_ rfl rfl (ih (k + 1) (by omega))
        rw [tpS, if_pos ⟨h, h2⟩, ← nI_1, ← nb_or, ← nb_1s k (by omega)]
        rfl
  refine zv_go C okX1_topsOf [4] 20 ?_
  exact loop n 0 (by omega)
def lsF (n s : Nat) : Nat → Nat
  | 0 => 0
  | m + 1 => if s.testBit (n - (m + 1)) = true then n - (m + 1) else lsF n s m
theorem lsF_lt {n s : Nat} (hn : n ≤ 14) : ∀ m, lsF n s m < 14
  | 0 => Nat.zero_lt_succ 13
  | m + 1 => by
    unfold lsF
    split
    · omega
    · exact lsF_lt hn m
set_option maxHeartbeats 4000000 in
set_option maxRecDepth 100000 in
theorem c_leastOf (K : zK) (c o b a y t : Nat) (bl ab : Nat → Nat) (n : Nat) (ver : Int32) (lf tf : Nat → Int32) (len seen : Int32) {s : Nat} (hs : s < 2 ^ 14) (hn : n ≤ 14) :
    zD K yX1_leastOf cX1_leastOf 3 (some .int) (zq 0 0 0 0) [.ref c, .int (nI s)] (wL K c o b a y t bl ab n ver lf tf len seen) (some (.int (nI (lsF n s n)))) (wL K c o b a y t bl ab n ver lf tf len seen) := by
  refine zo (by decide) (Nat.le_of_ble_eq_true rfl) fun x C R _ => ?_
  have loop : ∀ mm, mm ≤ n → lsF n s mm = lsF n s n → zv_V x (gz K (zq 0 0 0 0) 3 cX1_leastOf yX1_leastOf.cls) 2 [(0, .ref c), (1, .int (nI s)), (2, .int (nI (n - mm)))] [] (wL K c o b a y t bl ab n ver lf tf len seen) 0 0 := by
    intro mm
    induction mm with
    | zero =>
      intro _ he
      refine zv_go C okX1_leastOf [] 20 ?_
      refine ⟨rfl, rfl, fun _ => ?_, fun h => absurd (nI_le (by omega) (by omega)) h⟩
      exact zr R () [0, 1, 2, 3, 4, 5] (some (.int 0)) _ (by rw [← he] <;> rfl) rfl trivial rfl rfl (Nat.le_refl _) (Nat.le_refl _) dzX1_leastOf_30
    | succ mm ih =>
      intro hm he
      have enx : nI (n - (mm + 1)) + 1 = nI (n - mm) := by rw [nI_1]; congr 1; omega
      refine zv_go C okX1_leastOf [2] 50 ?_
      refine ⟨rfl, rfl, fun h => absurd h (nI_ge (by omega) (by omega)), fun _ => ⟨fun h => ?_, fun h => ?_⟩⟩
      · rw [nb_t0 (Nat.lt_trans hs (by decide)) (by omega)] at h
        rw [lsF, if_neg (by rw [h]; decide)] at he
        exact zv_to C (lv' := [(0, .ref c), (1, .int (nI s)), (2, .int (nI (n - mm)))]) (by rw [← enx] <;> rfl) rfl rfl (ih (by omega) he)
      · rw [nb_t1 (Nat.lt_trans hs (by decide)) (by omega)] at h
        rw [lsF, if_pos h] at he
        exact zr R () [0, 1, 2, 3, 4, 5] (some (.int _)) _ (by rw [← he] <;> rfl) rfl trivial rfl rfl (Nat.le_refl _) (Nat.le_refl _) dzX1_leastOf_22
  refine zv_go C okX1_leastOf [2] 20 ?_
  exact zv_to C (lv' := [(0, .ref c), (1, .int (nI s)), (2, .int (nI (n - n)))]) (by rw [Nat.sub_self] <;> rfl) rfl rfl (loop n (Nat.le_refl _) rfl)
/-- what is left when i layers came off -/
def lft (ab : Nat → Nat) (n : Nat) : Nat → Nat
  | 0 => 2 ^ n - 1
  | i + 1 => ndf (lft ab n i) (tpS ab (lft ab n i) n)
def plc (ab : Nat → Nat) (n : Nat) : Nat → Nat → Nat
  | 0, i => i
  | m + 1, i => if lft ab n i = 0 then i else plc ab n m (i + 1)
def plen (ab : Nat → Nat) (n : Nat) : Nat := plc ab n 14 0
theorem plc_le {ab : Nat → Nat} {n : Nat} : ∀ m i, plc ab n m i ≤ i + m
  | 0, i => Nat.le_refl _
  | m + 1, i => by
    unfold plc
    split
    · omega
    · have := plc_le (ab := ab) (n := n) m (i + 1)
      omega
theorem plen_le (ab : Nat → Nat) (n : Nat) : plen ab n ≤ 14 := plc_le 14 0
theorem lft_lt {ab : Nat → Nat} {n : Nat} (hn : n ≤ 14) : ∀ i, lft ab n i < 2 ^ 14
  | 0 => nb_all_lt hn
  | i + 1 => Nat.lt_of_le_of_lt (ndf_le _ _) (lft_lt hn i)
set_option maxHeartbeats 4000000 in
set_option maxRecDepth 100000 in
theorem c_peelLayers (K : zK) (c o b a y t : Nat) (bl ab : Nat → Nat) (n : Nat) (ver : Int32) (lf tf : Nat → Int32) (len seen : Int32) (hn : n ≤ 14) (ha : ∀ j, ab j < 2 ^ 14) :
    zM (S := Nat → Int32) K yX1_peelLayers cX1_peelLayers 3 none (zq 1 0 0 23) [.ref c] (wL K c o b a y t bl ab n ver lf tf len seen) (fun u => ∀ j, j < plen ab n → u j = nI (tpS ab (lft ab n j) n)) (fun _ => none) (fun u => wL K c o b a y t bl ab n ver u tf (nI (plen ab n)) seen) := by
  refine zo (by decide) (Nat.le_of_ble_eq_true rfl) fun x C R _ => ?_
  have loop : ∀ mm i (f : Nat → Int32) (lv2 : zv_L), i + mm = 14 → plc ab n mm i = plen ab n → (∀ j, j < i → f j = nI (tpS ab (lft ab n j) n)) → (lv2 = [] ∨ ∃ z, lv2 = [(2, .int z)]) → zv_V x (gz K (zq 1 0 0 23) 3 cX1_peelLayers yX1_peelLayers.cls) 13 ([(0, .ref c), (1, .int (nI (lft ab n i)))] ++ lv2) [] (wL K c o b a y t bl ab n ver f tf (nI i) seen) 0 0 := by
    intro mm
    induction mm with
    | zero =>
      intro i f lv2 hi he hf hl
      have e : i = 14 := by omega
      subst e
      have he : 14 = plen ab n := he
      refine zv_drop C [0, 1] (lv' := [(0, .ref c), (1, .int (nI (lft ab n 14)))]) (by rcases hl with rfl | ⟨z, rfl⟩ <;> rfl) ?_
      refine zv_go C okX1_peelLayers [] 20 ?_
      refine ⟨fun h => ?_, fun h => ⟨rfl, fun h2 => ?_, fun h2 => absurd (by decide) h2⟩⟩
      · exact zr R f [0, 1, 2, 3, 4, 5] none (wL K c o b a y t bl ab n ver f tf (nI 14) seen) rfl (by rw [← he]) (by rw [← he]; exact hf) rfl rfl (Nat.le_refl _) (Nat.le_refl _) dzX1_peelLayers_61
      · exact zr R f [0, 1, 2, 3, 4, 5] none (wL K c o b a y t bl ab n ver f tf (nI 14) seen) rfl (by rw [← he]) (by rw [← he]; exact hf) rfl rfl (Nat.le_refl _) (Nat.le_refl _) dzX1_peelLayers_61
    | succ mm ih =>
      intro i f lv2 hi he hf hl
      have hlt := lft_lt (ab := ab) hn i
      refine zv_drop C [0, 1] (lv' := [(0, .ref c), (1, .int (nI (lft ab n i)))]) (by rcases hl with rfl | ⟨z, rfl⟩ <;> rfl) ?_
      refine zv_go C okX1_peelLayers [] 20 ?_
      refine ⟨fun h => ?_, fun h => ⟨rfl, fun h2 => absurd h2 (nI_ge (a := i) (b := 14) (by omega) (by decide)), fun _ => ?_⟩⟩
      · rw [nb_0 (Nat.lt_trans hlt (by decide))] at h
        rw [plc, if_pos h] at he
        exact zr R f [0, 1, 2, 3, 4, 5] none (wL K c o b a y t bl ab n ver f tf (nI i) seen) rfl (by rw [← he]) (by rw [← he]; exact hf) rfl rfl (Nat.le_refl _) (Nat.le_refl _) dzX1_peelLayers_61
      · rw [nb_0 (Nat.lt_trans hlt (by decide))] at h
        rw [plc, if_neg h] at he
        refine zv_callV C (c_topsOf K c o b a y t bl ab n ver f tf (nI i) seen hlt hn ha) (zw_V inX1_topsOf kX1_47 ⟨by decide, by decide⟩) [0, 1, 2, 3, 4, 5] 0 rfl rfl rfl rfl (fun _ => Nat.le_refl _) rfl rfl (by decide) dzX1_peelLayers_28 (by decide) (by decide) rfl (fun _ _ => ?_)
        refine zv_to C rfl rfl (ws' := wL K c o b a y t bl ab n ver f tf (nI i) seen) rfl ?_
        refine zv_go C okX1_peelLayers [13] 50 ?_
        refine ⟨rfl, rfl, ⟨rfl, rfl⟩, vp_in_nI (by omega) (by decide), rfl, rfl, ?_⟩
        refine zv_to C (lv' := [(0, .ref c), (1, .int (nI (lft ab n (i + 1)))), (2, .int (nI (tpS ab (lft ab n i) n)))]) (by rw [lft, ← nb_not] <;> rfl) rfl (ws' := wL K c o b a y t bl ab n ver (upd f (nI i).toNatClampNeg (nI (tpS ab (lft ab n i) n))) tf (nI (i + 1)) seen) (by rw [← nI_1] <;> rfl) (ih (i + 1) _ [(2, .int (nI (tpS ab (lft ab n i) n)))] (by omega) he ?_ (Or.inr ⟨_, rfl⟩))
        intro j hj
        rw [nI_clamp (by omega)]
        by_cases e : j = i
        · rw [e, pk_us]
        · rw [pk_un e]; exact hf j (by omega)
  refine zv_go C okX1_peelLayers [] 2 ?_
  refine ⟨rfl, ?_⟩
  refine zv_callV C (c_all K o b a bl ab n ver hn) (zw_V inX4_all kX1_43 ⟨by decide, by decide⟩) [1, 2, 3] 1 rfl rfl rfl rfl (fun _ => Nat.le_refl _) rfl rfl (by decide) dzX1_peelLayers_4 (by decide) (by decide) rfl (fun _ _ => ?_)
  refine zv_to C rfl rfl (ws' := wL K c o b a y t bl ab n ver lf tf len seen) rfl ?_
  refine zv_go C okX1_peelLayers [13] 20 ?_
  refine ⟨rfl, ?_⟩
  exact loop 14 0 lf [] rfl rfl (fun j hj => absurd hj (Nat.not_lt_zero _)) (Or.inl rfl)
/-- what is allowed at place i of the chain, and the thing there -/
def cal (ab : Nat → Nat) (n : Nat) : Nat → Nat
  | 0 => 2 ^ n - 1
  | i + 1 => ab (lsF n (tpS ab (lft ab n (plen ab n - 1 - i)) n &&& cal ab n i) n)
def cth (ab : Nat → Nat) (n i : Nat) : Nat := lsF n (tpS ab (lft ab n (plen ab n - 1 - i)) n &&& cal ab n i) n
theorem cal_lt {ab : Nat → Nat} {n : Nat} (hn : n ≤ 14) (ha : ∀ j, ab j < 2 ^ 14) : ∀ i, cal ab n i < 2 ^ 14
  | 0 => nb_all_lt hn
  | i + 1 => ha _
set_option maxHeartbeats 4000000 in
set_option maxRecDepth 100000 in
theorem c_climb (K : zK) (c o b a y t : Nat) (bl ab : Nat → Nat) (n : Nat) (ver : Int32) (lf tf : Nat → Int32) (seen : Int32) (hn : n ≤ 14) (ha : ∀ j, ab j < 2 ^ 14) (hl : ∀ j, j < plen ab n → lf j = nI (tpS ab (lft ab n j) n)) :
    zM (S := Nat → Int32) K yX1_climb cX1_climb 4 none (zq 1 0 0 22) [.ref c] (wL K c o b a y t bl ab n ver lf tf (nI (plen ab n)) seen) (fun u => ∀ j, j < plen ab n → u j = nI (cth ab n j)) (fun _ => none) (fun u => wL K c o b a y t bl ab n ver lf u (nI (plen ab n)) seen) := by
  have hpl := plen_le ab n
  refine zo (by decide) (Nat.le_of_ble_eq_true rfl) fun x C R _ => ?_
  have loop : ∀ mm i (f : Nat → Int32) (lv2 : zv_L), i + mm = plen ab n → (∀ j, j < i → f j = nI (cth ab n j)) → (lv2 = [] ∨ ∃ z, lv2 = [(3, .int z)]) → zv_V x (gz K (zq 1 0 0 22) 4 cX1_climb yX1_climb.cls) 10 ([(0, .ref c), (1, .int (nI (cal ab n i))), (2, .int (nI i))] ++ lv2) [] (wL K c o b a y t bl ab n ver lf f (nI (plen ab n)) seen) 0 0 := by
    intro mm
    induction mm with
    | zero =>
      intro i f lv2 hi hf hl2
      have e : i = plen ab n := by omega
      refine zv_drop C [0, 1, 2] (lv' := [(0, .ref c), (1, .int (nI (cal ab n i))), (2, .int (nI i))]) (by rcases hl2 with rfl | ⟨z, rfl⟩ <;> rfl) ?_
      refine zv_go C okX1_climb [] 20 ?_
      refine ⟨rfl, fun _ => ?_, fun h => absurd (nI_le (by omega) (by omega)) h⟩
      exact zr R f [0, 1, 2, 3, 4, 5] none _ rfl rfl (by rw [← e]; exact hf) rfl rfl (Nat.le_refl _) (Nat.le_refl _) dzX1_climb_61
    | succ mm ih =>
      intro i f lv2 hi hf hl2
      have eix : nI (plen ab n) - 1 - nI i = nI (plen ab n - 1 - i) := by
        have e1 : (1 : Int32) = nI 1 := rfl
        rw [e1, pk_sub (by omega), pk_sub (by omega)]
      have hsl : tpS ab (lft ab n (plen ab n - 1 - i)) n &&& cal ab n i < 2 ^ 14 := Nat.lt_of_le_of_lt Nat.and_le_left (tpS_lt n hn)
      refine zv_drop C [0, 1, 2] (lv' := [(0, .ref c), (1, .int (nI (cal ab n i))), (2, .int (nI i))]) (by rcases hl2 with rfl | ⟨z, rfl⟩ <;> rfl) ?_
      refine zv_go C okX1_climb [] 30 ?_
      refine ⟨rfl, fun h => absurd h (nI_ge (by omega) (by omega)), fun _ => ⟨rfl, rfl, ⟨rfl, rfl⟩, ?_, ?_⟩⟩
      · show vp_in (nI (plen ab n) - 1 - nI i) 14
        rw [eix]
        exact vp_in_nI (by omega) (by decide)
      refine zv_to C rfl (st' := [.int (nI (tpS ab (lft ab n (plen ab n - 1 - i)) n &&& cal ab n i)), .ref c]) ?_ rfl ?_
      · show [Value.int (lf (nI (plen ab n) - 1 - nI i).toNatClampNeg &&& nI (cal ab n i)), Value.ref c] = _
        rw [eix, nI_clamp (by omega), hl _ (by omega), nb_and]
      refine zv_callV C (c_leastOf K c o b a y t bl ab n ver lf f (nI (plen ab n)) seen hsl hn) (zw_V inX1_leastOf kX1_57 ⟨by decide, by decide⟩) [0, 1, 2, 3, 4, 5] 0 rfl rfl rfl rfl (fun _ => Nat.le_refl _) rfl rfl (by decide) dzX1_climb_34 (by decide) (by decide) rfl (fun _ _ => ?_)
      refine zv_to C rfl rfl (ws' := wL K c o b a y t bl ab n ver lf f (nI (plen ab n)) seen) rfl ?_
      refine zv_go C okX1_climb [10] 50 ?_
      have hth : cth ab n i < 14 := lsF_lt hn n
      refine ⟨rfl, ⟨rfl, rfl⟩, vp_in_nI (by omega) (by decide), rfl, rfl, ⟨rfl, rfl⟩, vp_in_nI hth (by decide), ?_⟩
      refine zv_to C (lv' := [(0, .ref c), (1, .int (nI (cal ab n (i + 1)))), (2, .int (nI (i + 1))), (3, .int (nI (cth ab n i)))]) ?_ rfl (ws' := wL K c o b a y t bl ab n ver lf (upd f (nI i).toNatClampNeg (nI (cth ab n i))) (nI (plen ab n)) seen) rfl (ih (i + 1) _ [(3, .int (nI (cth ab n i)))] (by omega) ?_ (Or.inr ⟨_, rfl⟩))
      · show [(0, Value.ref c), (1, .int (nI (ab (nI (cth ab n i)).toNatClampNeg))), (2, .int (nI i + 1)), (3, .int (nI (cth ab n i)))] = _
        rw [nI_clamp (by omega), nI_1]
        rfl
      · intro j hj
        rw [nI_clamp (by omega)]
        by_cases e : j = i
        · rw [e, pk_us]
        · rw [pk_un e]; exact hf j (by omega)
  refine zv_go C okX1_climb [] 2 ?_
  refine ⟨rfl, ?_⟩
  refine zv_callV C (c_all K o b a bl ab n ver hn) (zw_V inX4_all kX1_43 ⟨by decide, by decide⟩) [1, 2, 3] 1 rfl rfl rfl rfl (fun _ => Nat.le_refl _) rfl rfl (by decide) dzX1_climb_4 (by decide) (by decide) rfl (fun _ _ => ?_)
  refine zv_to C rfl rfl (ws' := wL K c o b a y t bl ab n ver lf tf (nI (plen ab n)) seen) rfl ?_
  refine zv_go C okX1_climb [10] 20 ?_
  exact loop (plen ab n) 0 tf [] (by omega) (fun j hj => absurd hj (Nat.not_lt_zero _)) (Or.inl rfl)
