/-! THE MODEL: findOrders, rows, before, places -/
def lasB (f : Nat → Bool) (n s v : Nat) : Bool := s.testBit v && allB (fun u => !(s.testBit u && f (16 * v + u))) n
def foI (f : Nat → Bool) (n s : Nat) (g : Nat → Int64) : Nat → Int64
  | 0 => 0
  | v + 1 => foI f n s g v + (if lasB f n s v = true then g (ndf s (2 ^ v)) else 0)
def foS (f : Nat → Bool) (n : Nat) (g : Nat → Int64) : Nat → (Nat → Int64)
  | 0 => vp_updL g 0 1
  | k + 1 => vp_updL (foS f n g k) (k + 1) (foI f n (k + 1) (foS f n g k) n)
/-- the orders when all sets are done -/
def foA (f : Nat → Bool) (n : Nat) (g : Nat → Int64) : Nat → Int64 := foS f n g (2 ^ n - 1)
theorem uL_s {f : Nat → Int64} {k : Nat} {x : Int64} : vp_updL f k x k = x := if_pos rfl
theorem uL_n {f : Nat → Int64} {k j : Nat} {x : Int64} (h : j ≠ k) : vp_updL f k x j = f j := if_neg h
theorem uL_2 (f : Nat → Int64) (k : Nat) (x y : Int64) : vp_updL (vp_updL f k x) k y = vp_updL f k y := by
  funext j
  unfold vp_updL
  by_cases h : j = k
  · rw [if_pos h, if_pos h]
  · rw [if_neg h, if_neg h, if_neg h]
theorem nb_clr (s v : Nat) (hv : v < 32) : nI s &&& ((1 : Int32) <<< (nI v &&& 31) ^^^ (-1)) = nI (ndf s (2 ^ v)) := by
  rw [nb_1s v hv, nb_not]
theorem nb_clr_ne {s v : Nat} (h : s.testBit v = true) : ndf s (2 ^ v) ≠ s := by
  intro e
  have h2 := ndf_tb s (2 ^ v) v
  rw [e, h, Nat.testBit_two_pow_self] at h2
  cases h2
section ME
variable (K : zK) (A : Nat → Nat) (n : Nat) (cc : Int32)
set_option maxHeartbeats 4000000 in
set_option maxRecDepth 100000 in
theorem m_findOrders (f : Nat → Bool) (r : Nat) (g0 : Nat → Int64) (hn : n ≤ 14) : zD K yX9_findOrders cX9_findOrders 6 none (zq 1 0 0 40) [.ref (A 0), .ref r] [mO A n cc, mZ K r f, mJ K (A 3) g0] none [mO A n cc, mZ K r f, mJ K (A 3) (foA f n g0)] := by
  refine zo (by decide) (Nat.le_of_ble_eq_true rfl) fun x C R _ => ?_
  have hp : 0 < 2 ^ n := Nat.two_pow_pos n
  have hp14 := pow_le14 hn
  have inner : ∀ k v, k + 1 < 2 ^ n → v < n → (zv_V x (gz K (zq 1 0 0 40) 6 cX9_findOrders yX9_findOrders.cls) 92 [(0, .ref (A 0)), (1, .ref r), (2, .int (nI (k + 1))), (3, .int (nI v)), (4, .int (bI (lasB f n (k + 1) v))), (5, .int (nI n))] [] [mO A n cc, mZ K r f, mJ K (A 3) (vp_updL (foS f n g0 k) (k + 1) (foI f n (k + 1) (foS f n g0 k) v))] 0 0) → ∀ u, u ≤ n → zv_V x (gz K (zq 1 0 0 40) 6 cX9_findOrders yX9_findOrders.cls) 44 [(0, .ref (A 0)), (1, .ref r), (2, .int (nI (k + 1))), (3, .int (nI v)), (4, .int (bI ((k + 1).testBit v && allB (fun u => !((k + 1).testBit u && f (16 * v + u))) u))), (5, .int (nI u))] [] [mO A n cc, mZ K r f, mJ K (A 3) (vp_updL (foS f n g0 k) (k + 1) (foI f n (k + 1) (foS f n g0 k) v))] 0 0 := by
    intro k v hk hv hend
    refine zl n ?_ fun u hu ih => ?_
    · refine zv_go C okX9_findOrders [92] 10 ?_
      refine ⟨rfl, fun _ => ?_, fun h => absurd (nI_le (Nat.le_refl _) (by omega)) h⟩
      exact hend
    · generalize hf : ((k + 1).testBit v && allB (fun u => !((k + 1).testBit u && f (16 * v + u))) u) = b
      have join : ∀ c : Int32, c = bI (b && !((k + 1).testBit u && f (16 * v + u))) → zv_V x (gz K (zq 1 0 0 40) 6 cX9_findOrders yX9_findOrders.cls) 84 [(0, .ref (A 0)), (1, .ref r), (2, .int (nI (k + 1))), (3, .int (nI v)), (4, .int (bI (b))), (5, .int (nI u))] [.int c] [mO A n cc, mZ K r f, mJ K (A 3) (vp_updL (foS f n g0 k) (k + 1) (foI f n (k + 1) (foS f n g0 k) v))] 0 0 := by
        intro c hc
        subst hc
        refine zv_go C okX9_findOrders [44] 10 ?_
        refine zv_to C (lv' := [(0, .ref (A 0)), (1, .ref r), (2, .int (nI (k + 1))), (3, .int (nI v)), (4, .int (bI ((k + 1).testBit v && allB (fun u => !((k + 1).testBit u && f (16 * v + u))) (u + 1)))), (5, .int (nI (u + 1)))]) ?_ rfl rfl ih
        have e3 : ((k + 1).testBit v && allB (fun u => !((k + 1).testBit u && f (16 * v + u))) (u + 1)) = (b && !((k + 1).testBit u && f (16 * v + u))) := by rw [← hf, allB, ← Bool.and_assoc]
        rw [e3, ← nI_1 u]
        rfl
      have e1 : ((16 : Int32) * nI v + nI u).toNatClampNeg = 16 * v + u := by rw [nb_16]; exact nI_clamp (by omega)
      have v1 : vp_in ((16 : Int32) * nI v + nI u) 256 := by rw [nb_16]; exact vp_in_nI (by omega) (by decide)
      refine zv_go C okX9_findOrders [84] 20 ?_
      refine ⟨rfl, fun h => absurd h (nI_ge (by omega) (by omega)), fun _ => ⟨fun h1 => ?_, fun h1 => ?_⟩⟩
      · rw [bI_0] at h1
        exact join _ (by simp [bI, h1])
      · rw [bI_1] at h1
        refine zv_callS C (m_isIn K (s := k + 1) (v := u) (by omega) (by omega)) (zw_S inX9_isIn kX9_58 ⟨by decide, by decide⟩) [] rfl rfl (fun _ => Nat.le_refl _) rfl rfl (by decide) dzX9_findOrders_61 (by decide) (by decide) rfl (fun _ _ => ?_)
        refine zv_to C rfl rfl (ws' := [mO A n cc, mZ K r f, mJ K (A 3) (vp_updL (foS f n g0 k) (k + 1) (foI f n (k + 1) (foS f n g0 k) v))]) rfl ?_
        refine zv_go C okX9_findOrders [84] 20 ?_
        refine ⟨fun h2 => ?_, fun h2 => ⟨⟨rfl, rfl⟩, v1, fun h3 => ?_, fun h3 => ?_⟩⟩
        · rw [bI_0] at h2
          exact join _ (by simp [bI, h1, h2])
        · have h3 : ¬ bI (f ((16 : Int32) * nI v + nI u).toNatClampNeg) = 0 := h3
          rw [bI_1] at h2
          rw [e1, bI_1] at h3
          exact join _ (by simp [bI, h1, h2, h3])
        · have h3 : bI (f ((16 : Int32) * nI v + nI u).toNatClampNeg) = 0 := h3
          rw [bI_1] at h2
          rw [e1, bI_0] at h3
          exact join _ (by simp [bI, h1, h2, h3])
  have mid : ∀ k, k + 1 < 2 ^ n → (zv_V x (gz K (zq 1 0 0 40) 6 cX9_findOrders yX9_findOrders.cls) 9 [(0, .ref (A 0)), (1, .ref r), (2, .int (nI (k + 2)))] [] [mO A n cc, mZ K r f, mJ K (A 3) (foS f n g0 (k + 1))] 0 0) → ∀ v, v ≤ n → zv_V x (gz K (zq 1 0 0 40) 6 cX9_findOrders yX9_findOrders.cls) 26 [(0, .ref (A 0)), (1, .ref r), (2, .int (nI (k + 1))), (3, .int (nI v))] [] [mO A n cc, mZ K r f, mJ K (A 3) (vp_updL (foS f n g0 k) (k + 1) (foI f n (k + 1) (foS f n g0 k) v))] 0 0 := by
    intro k hk hend
    refine zl n ?_ fun v hv ih => ?_
    · refine zv_go C okX9_findOrders [9] 20 ?_
      refine ⟨rfl, fun _ => ?_, fun h => absurd (nI_le (Nat.le_refl _) (by omega)) h⟩
      refine zv_drop C [0, 1, 2] (lv' := [(0, .ref (A 0)), (1, .ref r), (2, .int (nI (k + 2)))]) (by rw [← nI_1 (k + 1)] <;> rfl) ?_
      exact hend
    · have kl : (nI (k + 1)).toNatClampNeg = k + 1 := nI_clamp (by omega)
      have kin : vp_in (nI (k + 1)) 16384 := vp_in_nI (by omega) (by decide)
      have ec : nI (k + 1) &&& ((1 : Int32) <<< (nI v &&& 31) ^^^ (-1)) = nI (ndf (k + 1) (2 ^ v)) := nb_clr _ _ (by omega)
      have hle := ndf_le (k + 1) (2 ^ v)
      refine zv_go C okX9_findOrders [] 20 ?_
      refine ⟨rfl, fun h => absurd h (nI_ge (by omega) (by omega)), fun _ => ?_⟩
      refine zv_callS C (m_isIn K (s := k + 1) (v := v) (by omega) (by omega)) (zw_S inX9_isIn kX9_58 ⟨by decide, by decide⟩) [] rfl rfl (fun _ => Nat.le_refl _) rfl rfl (by decide) dzX9_findOrders_36 (by decide) (by decide) rfl (fun _ _ => ?_)
      refine zv_to C rfl rfl (ws' := [mO A n cc, mZ K r f, mJ K (A 3) (vp_updL (foS f n g0 k) (k + 1) (foI f n (k + 1) (foS f n g0 k) v))]) rfl ?_
      refine zv_go C okX9_findOrders [44] 20 ?_
      refine zv_to C (lv' := [(0, .ref (A 0)), (1, .ref r), (2, .int (nI (k + 1))), (3, .int (nI v)), (4, .int (bI ((k + 1).testBit v && allB (fun u => !((k + 1).testBit u && f (16 * v + u))) 0))), (5, .int (nI 0))]) (by rw [allB.eq_1, Bool.and_true] <;> rfl) rfl rfl (inner k v hk hv ?_ 0 (Nat.zero_le _))
      refine zv_go C okX9_findOrders [26] 40 ?_
      refine ⟨rfl, ⟨rfl, rfl⟩, kin, fun h => ⟨⟨rfl, rfl⟩, kin, ?_⟩, fun h => ⟨rfl, ⟨rfl, rfl⟩, ?_, ⟨rfl, rfl⟩, kin, ?_⟩⟩
      · rw [bI_0] at h
        refine zv_drop C [0, 1, 2, 3] (lv' := [(0, .ref (A 0)), (1, .ref r), (2, .int (nI (k + 1))), (3, .int (nI (v + 1)))]) (by rw [← nI_1 v] <;> rfl) ?_
        refine zv_to C rfl rfl (ws' := [mO A n cc, mZ K r f, mJ K (A 3) (vp_updL (foS f n g0 k) (k + 1) (foI f n (k + 1) (foS f n g0 k) (v + 1)))]) ?_ ih
        show [_, _, (A 3, Sum.inl (cJ K, 16384, Sum.inr (Sum.inl (vp_updL (vp_updL (foS f n g0 k) (k + 1) (foI f n (k + 1) (foS f n g0 k) v)) (nI (k + 1)).toNatClampNeg (vp_updL (foS f n g0 k) (k + 1) (foI f n (k + 1) (foS f n g0 k) v) (nI (k + 1)).toNatClampNeg + 0)))))] = _
        rw [kl, uL_2, uL_s, foI, h]
        rfl
      · show vp_in (nI (k + 1) &&& ((1 : Int32) <<< (nI v &&& 31) ^^^ (-1))) 16384
        rw [ec]
        exact vp_in_nI (by omega) (by decide)
      · rw [bI_1] at h
        have hb : (k + 1).testBit v = true := by
          unfold lasB at h
          rw [Bool.and_eq_true] at h
          exact h.1
        have ecl : (nI (k + 1) &&& ((1 : Int32) <<< (nI v &&& 31) ^^^ (-1))).toNatClampNeg = ndf (k + 1) (2 ^ v) := by rw [ec]; exact nI_clamp (by omega)
        refine zv_drop C [0, 1, 2, 3] (lv' := [(0, .ref (A 0)), (1, .ref r), (2, .int (nI (k + 1))), (3, .int (nI (v + 1)))]) (by rw [← nI_1 v] <;> rfl) ?_
        refine zv_to C rfl rfl (ws' := [mO A n cc, mZ K r f, mJ K (A 3) (vp_updL (foS f n g0 k) (k + 1) (foI f n (k + 1) (foS f n g0 k) (v + 1)))]) ?_ ih
        show [_, _, (A 3, Sum.inl (cJ K, 16384, Sum.inr (Sum.inl (vp_updL (vp_updL (foS f n g0 k) (k + 1) (foI f n (k + 1) (foS f n g0 k) v)) (nI (k + 1)).toNatClampNeg (vp_updL (foS f n g0 k) (k + 1) (foI f n (k + 1) (foS f n g0 k) v) (nI (k + 1)).toNatClampNeg + vp_updL (foS f n g0 k) (k + 1) (foI f n (k + 1) (foS f n g0 k) v) (nI (k + 1) &&& ((1 : Int32) <<< (nI v &&& 31) ^^^ (-1))).toNatClampNeg)))))] = _
        rw [kl, ecl, uL_2, uL_s, uL_n (nb_clr_ne hb), foI, if_pos h]
  have outer : ∀ k, k ≤ 2 ^ n - 1 → zv_V x (gz K (zq 1 0 0 40) 6 cX9_findOrders yX9_findOrders.cls) 9 [(0, .ref (A 0)), (1, .ref r), (2, .int (nI (k + 1)))] [] [mO A n cc, mZ K r f, mJ K (A 3) (foS f n g0 k)] 0 0 := by
    refine zl (2 ^ n - 1) ?_ fun k hk ih => ?_
    · refine zv_go C okX9_findOrders [] 20 ?_
      refine zv_callV C (m_all K A n cc hn) (zw_V inX9_all kX9_61 ⟨by decide, by decide⟩) [0] 0 rfl rfl rfl rfl (fun _ => Nat.le_refl _) (rest := [.int (nI (2 ^ n - 1 + 1))]) rfl rfl (Nat.le_of_ble_eq_true rfl) dzX9_findOrders_11 (by decide) (by decide) rfl (fun _ _ => ?_)
      refine zv_to C rfl rfl (ws' := [mO A n cc, mZ K r f, mJ K (A 3) (foS f n g0 (2 ^ n - 1))]) rfl ?_
      refine zv_go C okX9_findOrders [] 20 ?_
      refine ⟨fun _ => ?_, fun h => absurd (nI_lt (by omega) (by omega)) h⟩
      exact zr R () [0, 1, 2] none _ rfl rfl trivial rfl rfl (Nat.zero_le _) (Nat.zero_le _) dzX9_findOrders_134
    · refine zv_go C okX9_findOrders [] 20 ?_
      refine zv_callV C (m_all K A n cc hn) (zw_V inX9_all kX9_61 ⟨by decide, by decide⟩) [0] 0 rfl rfl rfl rfl (fun _ => Nat.le_refl _) (rest := [.int (nI (k + 1))]) rfl rfl (Nat.le_of_ble_eq_true rfl) dzX9_findOrders_11 (by decide) (by decide) rfl (fun _ _ => ?_)
      refine zv_to C rfl rfl (ws' := [mO A n cc, mZ K r f, mJ K (A 3) (foS f n g0 k)]) rfl ?_
      refine zv_go C okX9_findOrders [26] 20 ?_
      refine ⟨fun h => absurd h (nI_nlt (by omega) (by omega)), fun _ => ⟨rfl, ⟨rfl, rfl⟩, vp_in_nI (by omega) (by decide), ?_⟩⟩
      refine zv_to C (lv' := [(0, .ref (A 0)), (1, .ref r), (2, .int (nI (k + 1))), (3, .int (nI 0))]) rfl rfl (ws' := [mO A n cc, mZ K r f, mJ K (A 3) (vp_updL (foS f n g0 k) (k + 1) (foI f n (k + 1) (foS f n g0 k) 0))]) ?_ (mid k (by omega) ih 0 (Nat.zero_le _))
      show [_, _, (A 3, Sum.inl (cJ K, 16384, Sum.inr (Sum.inl (vp_updL (foS f n g0 k) (nI (k + 1)).toNatClampNeg 0))))] = _
      rw [nI_clamp (by omega)]
      rfl
  refine zv_go C okX9_findOrders [9] 20 ?_
  refine ⟨rfl, ⟨rfl, rfl⟩, vp_in_nI (n := 0) (by omega) (by omega), ?_⟩
  exact outer 0 (Nat.zero_le _)
set_option maxHeartbeats 4000000 in
set_option maxRecDepth 100000 in
theorem m_rows (Lf : Nat → Bool) (g0 : Nat → Int64) (hn : n ≤ 14) : zD K yX9_rows cX9_rows 1 (some .long) (zq 2 0 0 80) [.ref (A 0)] [mO A n cc, mZ K (A 1) Lf, mJ K (A 3) g0] (some (.long ((foA Lf n g0) (2 ^ n - 1)))) [mO A n cc, mZ K (A 1) Lf, mJ K (A 3) (foA Lf n g0)] := by
  refine zo (by decide) (Nat.le_of_ble_eq_true rfl) fun x C R _ => ?_
  have hp : 0 < 2 ^ n := Nat.two_pow_pos n
  have hp14 := pow_le14 hn
  refine zv_go C okX9_rows [] 20 ?_
  refine ⟨rfl, ?_⟩
  refine zv_callV C (m_findOrders K A n cc Lf (A 1) g0 hn) (zw_V inX9_findOrders kX9_96 ⟨by decide, by decide⟩) [0, 1, 2] 0 rfl rfl rfl rfl (fun _ => Nat.le_refl _) rfl rfl (by decide) dzX9_rows_5 (by decide) (by decide) rfl (fun _ _ => ?_)
  refine zv_to C rfl rfl (ws' := [mO A n cc, mZ K (A 1) Lf, mJ K (A 3) (foA Lf n g0)]) rfl ?_
  refine zv_go C okX9_rows [] 20 ?_
  refine ⟨rfl, ?_⟩
  refine zv_callV C (m_all K A n cc hn) (zw_V inX9_all kX9_61 ⟨by decide, by decide⟩) [0] 0 rfl rfl rfl rfl (fun _ => Nat.le_refl _) (rest := [.ref (A 3)]) rfl rfl (Nat.le_of_ble_eq_true rfl) dzX9_rows_13 (by decide) (by decide) rfl (fun _ _ => ?_)
  refine zv_to C rfl rfl (ws' := [mO A n cc, mZ K (A 1) Lf, mJ K (A 3) (foA Lf n g0)]) rfl ?_
  refine zv_go C okX9_rows [] 20 ?_
  refine ⟨⟨rfl, rfl⟩, vp_in_nI (by omega) (by decide), ?_⟩
  exact zr R () [0, 1, 2] (some (.long _)) _ (by rw [nI_clamp (by omega)]) rfl trivial rfl rfl (Nat.zero_le _) (Nat.zero_le _) dzX9_rows_17
set_option maxHeartbeats 4000000 in
set_option maxRecDepth 100000 in
theorem m_before_no (Lf Of : Nat → Bool) (g0 : Nat → Int64) (a b : Int32) (h : hasb n a = false ∨ hasb n b = false ∨ a = b) : zD K yX9_before cX9_before 4 (some .long) (zq 2 0 0 80) [.ref (A 0), .int a, .int b] [mO A n cc, mZ K (A 1) Lf, mZ K (A 2) Of, mJ K (A 3) g0] (some (.long (-1))) [mO A n cc, mZ K (A 1) Lf, mZ K (A 2) Of, mJ K (A 3) g0] := by
  refine zo (by decide) (Nat.le_of_ble_eq_true rfl) fun x C R _ => ?_
  refine zv_go C okX9_before [] 20 ?_
  refine zv_callV C (m_has K A n cc a) (zw_V inX9_has kX9_42 ⟨by decide, by decide⟩) [0] 0 rfl rfl rfl rfl (fun _ => Nat.le_refl _) rfl rfl (by decide) dzX9_before_2 (by decide) (by decide) rfl (fun _ _ => ?_)
  refine zv_to C rfl rfl (ws' := [mO A n cc, mZ K (A 1) Lf, mZ K (A 2) Of, mJ K (A 3) g0]) rfl ?_
  refine zv_go C okX9_before [] 20 ?_
  refine ⟨fun h1 => ?_, fun h1 => ?_⟩
  · exact zr R () [0, 1, 2, 3] (some (.long (-1))) _ rfl rfl trivial rfl rfl (Nat.zero_le _) (Nat.zero_le _) dzX9_before_24
  rw [bI_1] at h1
  refine zv_callV C (m_has K A n cc b) (zw_V inX9_has kX9_42 ⟨by decide, by decide⟩) [0] 0 rfl rfl rfl rfl (fun _ => Nat.le_refl _) rfl rfl (by decide) dzX9_before_10 (by decide) (by decide) rfl (fun _ _ => ?_)
  refine zv_to C rfl rfl (ws' := [mO A n cc, mZ K (A 1) Lf, mZ K (A 2) Of, mJ K (A 3) g0]) rfl ?_
  refine zv_go C okX9_before [] 20 ?_
  refine ⟨fun h2 => ?_, fun h2 => ⟨fun h3 => ?_, fun h3 => ?_⟩⟩
  · exact zr R () [0, 1, 2, 3] (some (.long (-1))) _ rfl rfl trivial rfl rfl (Nat.zero_le _) (Nat.zero_le _) dzX9_before_24
  · rw [bI_1] at h2
    rcases h with h | h | h
    · rw [h] at h1; cases h1
    · rw [h] at h2; cases h2
    · exact absurd h h3
  · exact zr R () [0, 1, 2, 3] (some (.long (-1))) _ rfl rfl trivial rfl rfl (Nat.zero_le _) (Nat.zero_le _) dzX9_before_24
set_option maxHeartbeats 4000000 in
set_option maxRecDepth 100000 in
theorem m_before_0 (Lf Of : Nat → Bool) (g0 : Nat → Int64) {i j : Nat} (hi : i < n) (hj : j < n) (hij : i ≠ j) (hn : n ≤ 14) (hb : Lf (16 * j + i) = true) : zD K yX9_before cX9_before 4 (some .long) (zq 2 0 0 80) [.ref (A 0), .int (nI i), .int (nI j)] [mO A n cc, mZ K (A 1) Lf, mZ K (A 2) Of, mJ K (A 3) g0] (some (.long 0)) [mO A n cc, mZ K (A 1) Lf, mZ K (A 2) Of, mJ K (A 3) g0] := by
  refine zo (by decide) (Nat.le_of_ble_eq_true rfl) fun x C R _ => ?_
  refine zv_go C okX9_before [] 20 ?_
  refine zv_callV C (m_has K A n cc (nI i)) (zw_V inX9_has kX9_42 ⟨by decide, by decide⟩) [0] 0 rfl rfl rfl rfl (fun _ => Nat.le_refl _) rfl rfl (by decide) dzX9_before_2 (by decide) (by decide) rfl (fun _ _ => ?_)
  refine zv_to C rfl rfl (ws' := [mO A n cc, mZ K (A 1) Lf, mZ K (A 2) Of, mJ K (A 3) g0]) rfl ?_
  refine zv_go C okX9_before [] 20 ?_
  refine ⟨fun h1 => ?_, fun h1 => ?_⟩
  · rw [bI_0, hasb_nI (by omega) (by omega), decide_eq_false_iff_not] at h1; exact absurd hi h1
  refine zv_callV C (m_has K A n cc (nI j)) (zw_V inX9_has kX9_42 ⟨by decide, by decide⟩) [0] 0 rfl rfl rfl rfl (fun _ => Nat.le_refl _) rfl rfl (by decide) dzX9_before_10 (by decide) (by decide) rfl (fun _ _ => ?_)
  refine zv_to C rfl rfl (ws' := [mO A n cc, mZ K (A 1) Lf, mZ K (A 2) Of, mJ K (A 3) g0]) rfl ?_
  refine zv_go C okX9_before [] 20 ?_
  refine ⟨fun h1 => ?_, fun h1 => ⟨fun h3 => ?_, fun h3 => ?_⟩⟩
  · rw [bI_0, hasb_nI (by omega) (by omega), decide_eq_false_iff_not] at h1; exact absurd hj h1
  rotate_left
  · exact absurd ((nb_inj (by omega) (by omega)).mp h3) hij
  refine zv_callV C (m_is K A n cc Lf (a := j) (b := i) (by omega)) (zw_V inX9_is kX9_46 ⟨by decide, by decide⟩) [0, 1] 0 rfl rfl rfl rfl (fun _ => Nat.le_refl _) rfl rfl (by decide) dzX9_before_28 (by decide) (by decide) rfl (fun _ _ => ?_)
  refine zv_to C rfl rfl (ws' := [mO A n cc, mZ K (A 1) Lf, mZ K (A 2) Of, mJ K (A 3) g0]) rfl ?_
  refine zv_go C okX9_before [38] 20 ?_
  refine ⟨fun h1 => ?_, fun h1 => ?_⟩
  · rw [bI_0, hb] at h1; cases h1
  · exact zr R () [0, 1, 2, 3] (some (.long 0)) _ rfl rfl trivial rfl rfl (Nat.zero_le _) (Nat.zero_le _) dzX9_before_35
set_option maxHeartbeats 4000000 in
set_option maxRecDepth 100000 in
theorem m_before (Lf Of : Nat → Bool) (g0 : Nat → Int64) {i j : Nat} (hi : i < n) (hj : j < n) (hij : i ≠ j) (hn : n ≤ 14) (hb : Lf (16 * j + i) = false) : zD K yX9_before cX9_before 4 (some .long) (zq 2 0 0 80) [.ref (A 0), .int (nI i), .int (nI j)] [mO A n cc, mZ K (A 1) Lf, mZ K (A 2) Of, mJ K (A 3) g0] (some (.long ((foA (clW n 257 (updB Lf (16 * i + j) true)) n g0) (2 ^ n - 1)))) [mO A n cc, mZ K (A 1) Lf, mZ K (A 2) (clW n 257 (updB Lf (16 * i + j) true)), mJ K (A 3) (foA (clW n 257 (updB Lf (16 * i + j) true)) n g0)] := by
  refine zo (by decide) (Nat.le_of_ble_eq_true rfl) fun x C R _ => ?_
  have hp : 0 < 2 ^ n := Nat.two_pow_pos n
  have hp14 := pow_le14 hn
  have rest : zv_V x (gz K (zq 2 0 0 80) 4 cX9_before yX9_before.cls) 63 [(0, .ref (A 0)), (1, .int (nI i)), (2, .int (nI j)), (3, .int (nI 256))] [] [mO A n cc, mZ K (A 1) Lf, mZ K (A 2) Lf, mJ K (A 3) g0] 0 0 := by
    refine zv_go C okX9_before [] 20 ?_
    refine ⟨rfl, ⟨rfl, rfl⟩, ?_, rfl, ?_⟩
    · show vp_in ((16 : Int32) * nI i + nI j) 256
      rw [nb_16]; exact vp_in_nI (by omega) (by decide)
    have e : ((16 : Int32) * nI i + nI j).toNatClampNeg = 16 * i + j := by rw [nb_16]; exact nI_clamp (by omega)
    refine zv_to C rfl rfl (ws' := [mO A n cc, mZ K (A 1) Lf, mZ K (A 2) (updB Lf (16 * i + j) true), mJ K (A 3) g0]) ?_ ?_
    · show [_, _, (A 2, Sum.inl (cZ K, 256, Sum.inl (upd (fun k => bI (Lf k)) ((16 : Int32) * nI i + nI j).toNatClampNeg (vp_nar .boolean 1)))), _] = _
      rw [e, bI_n1, updB_bI]
    refine zv_callV C (m_close K A n cc (r := A 2) (f0 := updB Lf (16 * i + j) true) hn) (zw_V inX9_close kX9_54 ⟨by decide, by decide⟩) [0, 2] 0 rfl rfl rfl rfl (fun _ => Nat.le_refl _) rfl rfl (by decide) dzX9_before_80 (by decide) (by decide) rfl (fun _ _ => ?_)
    refine zv_to C rfl rfl (ws' := [mO A n cc, mZ K (A 1) Lf, mZ K (A 2) (clW n 257 (updB Lf (16 * i + j) true)), mJ K (A 3) g0]) rfl ?_
    refine zv_go C okX9_before [] 20 ?_
    refine ⟨rfl, ?_⟩
    refine zv_callV C (m_findOrders K A n cc (clW n 257 (updB Lf (16 * i + j) true)) (A 2) g0 hn) (zw_V inX9_findOrders kX9_96 ⟨by decide, by decide⟩) [0, 2, 3] 0 rfl rfl rfl rfl (fun _ => Nat.le_refl _) rfl rfl (by decide) dzX9_before_88 (by decide) (by decide) rfl (fun _ _ => ?_)
    refine zv_to C rfl rfl (ws' := [mO A n cc, mZ K (A 1) Lf, mZ K (A 2) (clW n 257 (updB Lf (16 * i + j) true)), mJ K (A 3) (foA (clW n 257 (updB Lf (16 * i + j) true)) n g0)]) rfl ?_
    refine zv_go C okX9_before [] 20 ?_
    refine ⟨rfl, ?_⟩
    refine zv_callV C (m_all K A n cc hn) (zw_V inX9_all kX9_61 ⟨by decide, by decide⟩) [0] 0 rfl rfl rfl rfl (fun _ => Nat.le_refl _) (rest := [.ref (A 3)]) rfl rfl (Nat.le_of_ble_eq_true rfl) dzX9_before_96 (by decide) (by decide) rfl (fun _ _ => ?_)
    refine zv_to C rfl rfl (ws' := [mO A n cc, mZ K (A 1) Lf, mZ K (A 2) (clW n 257 (updB Lf (16 * i + j) true)), mJ K (A 3) (foA (clW n 257 (updB Lf (16 * i + j) true)) n g0)]) rfl ?_
    refine zv_go C okX9_before [] 20 ?_
    refine ⟨⟨rfl, rfl⟩, vp_in_nI (by omega) (by decide), ?_⟩
    exact zr R () [0, 1, 2, 3] (some (.long _)) _ (by rw [nI_clamp (by omega)]) rfl trivial rfl rfl (Nat.zero_le _) (Nat.zero_le _) dzX9_before_100
  have loop : ∀ mm k (f : Nat → Int32), k + mm = 256 → (∀ q, q < k → f q = bI (Lf q)) → zv_V x (gz K (zq 2 0 0 80) 4 cX9_before yX9_before.cls) 38 [(0, .ref (A 0)), (1, .int (nI i)), (2, .int (nI j)), (3, .int (nI k))] [] [mO A n cc, mZ K (A 1) Lf, (A 2, .inl (cZ K, 256, .inl f)), mJ K (A 3) g0] 0 0 := by
    intro mm
    induction mm with
    | zero =>
      intro k f hk hf
      have e : k = 256 := by omega
      subst e
      refine zv_exI C 2 (fun q => bI (Lf q)) rfl (fun q hq => hf q hq) ?_
      refine zv_go C okX9_before [63] 20 ?_
      refine ⟨fun _ => ?_, fun h => absurd (by decide) h⟩
      exact rest
    | succ mm ih =>
      intro k f hk hf
      refine zv_go C okX9_before [38] 20 ?_
      refine ⟨fun h => absurd h (nI_ge (b := 256) (by omega) (by omega)), fun _ => ⟨rfl, rfl, ⟨rfl, rfl⟩, vp_in_nI (by omega) (by decide), ⟨rfl, rfl⟩, vp_in_nI (by omega) (by decide), ?_⟩⟩
      refine zv_to C (lv' := [(0, .ref (A 0)), (1, .int (nI i)), (2, .int (nI j)), (3, .int (nI (k + 1)))]) (by rw [← nI_1] <;> rfl) rfl rfl (ih (k + 1) _ (by omega) ?_)
      intro q hq
      show upd f (nI k).toNatClampNeg (vp_nar .boolean (bI (Lf (nI k).toNatClampNeg))) q = _
      rw [nI_clamp (by omega)]
      by_cases e : q = k
      · rw [e, pk_us]; exact bI_nn _
      · rw [pk_un e]; exact hf q (by omega)
  refine zv_go C okX9_before [] 20 ?_
  refine zv_callV C (m_has K A n cc (nI i)) (zw_V inX9_has kX9_42 ⟨by decide, by decide⟩) [0] 0 rfl rfl rfl rfl (fun _ => Nat.le_refl _) rfl rfl (by decide) dzX9_before_2 (by decide) (by decide) rfl (fun _ _ => ?_)
  refine zv_to C rfl rfl (ws' := [mO A n cc, mZ K (A 1) Lf, mZ K (A 2) Of, mJ K (A 3) g0]) rfl ?_
  refine zv_go C okX9_before [] 20 ?_
  refine ⟨fun h1 => ?_, fun h1 => ?_⟩
  · rw [bI_0, hasb_nI (by omega) (by omega), decide_eq_false_iff_not] at h1; exact absurd hi h1
  refine zv_callV C (m_has K A n cc (nI j)) (zw_V inX9_has kX9_42 ⟨by decide, by decide⟩) [0] 0 rfl rfl rfl rfl (fun _ => Nat.le_refl _) rfl rfl (by decide) dzX9_before_10 (by decide) (by decide) rfl (fun _ _ => ?_)
  refine zv_to C rfl rfl (ws' := [mO A n cc, mZ K (A 1) Lf, mZ K (A 2) Of, mJ K (A 3) g0]) rfl ?_
  refine zv_go C okX9_before [] 20 ?_
  refine ⟨fun h1 => ?_, fun h1 => ⟨fun h3 => ?_, fun h3 => ?_⟩⟩
  · rw [bI_0, hasb_nI (by omega) (by omega), decide_eq_false_iff_not] at h1; exact absurd hj h1
  rotate_left
  · exact absurd ((nb_inj (by omega) (by omega)).mp h3) hij
  refine zv_callV C (m_is K A n cc Lf (a := j) (b := i) (by omega)) (zw_V inX9_is kX9_46 ⟨by decide, by decide⟩) [0, 1] 0 rfl rfl rfl rfl (fun _ => Nat.le_refl _) rfl rfl (by decide) dzX9_before_28 (by decide) (by decide) rfl (fun _ _ => ?_)
  refine zv_to C rfl rfl (ws' := [mO A n cc, mZ K (A 1) Lf, mZ K (A 2) Of, mJ K (A 3) g0]) rfl ?_
  refine zv_go C okX9_before [38] 20 ?_
  refine ⟨fun h1 => ?_, fun h1 => ?_⟩
  · exact loop 256 0 _ (by omega) (fun q hq => absurd hq (Nat.not_lt_zero _))
  · rw [bI_1, hb] at h1; cases h1
set_option maxHeartbeats 4000000 in
set_option maxRecDepth 100000 in
theorem m_places_no (Lf : Nat → Bool) (g0 : Nat → Int64) (a b : Int32) (h : hasb n a = false ∨ hasb n b = false) : zD K yX9_places cX9_places 6 (some .long) (zq 2 0 0 80) [.ref (A 0), .int a, .int b] [mO A n cc, mZ K (A 1) Lf, mJ K (A 3) g0] (some (.long (-1))) [mO A n cc, mZ K (A 1) Lf, mJ K (A 3) g0] := by
  refine zo (by decide) (Nat.le_of_ble_eq_true rfl) fun x C R _ => ?_
  refine zv_go C okX9_places [] 20 ?_
  refine zv_callV C (m_has K A n cc a) (zw_V inX9_has kX9_42 ⟨by decide, by decide⟩) [0] 0 rfl rfl rfl rfl (fun _ => Nat.le_refl _) rfl rfl (by decide) dzX9_places_2 (by decide) (by decide) rfl (fun _ _ => ?_)
  refine zv_to C rfl rfl (ws' := [mO A n cc, mZ K (A 1) Lf, mJ K (A 3) g0]) rfl ?_
  refine zv_go C okX9_places [] 20 ?_
  refine ⟨fun h1 => ?_, fun h1 => ⟨fun h2 => ?_, fun h2 => ⟨rfl, fun h3 => ?_, fun h3 => ?_⟩⟩⟩
  · exact zr R () [0, 1, 2] (some (.long (-1))) _ rfl rfl trivial rfl rfl (Nat.zero_le _) (Nat.zero_le _) dzX9_places_23
  · exact zr R () [0, 1, 2] (some (.long (-1))) _ rfl rfl trivial rfl rfl (Nat.zero_le _) (Nat.zero_le _) dzX9_places_23
  · rw [bI_1] at h1
    rcases h with h | h
    · rw [h] at h1; cases h1
    · unfold hasb at h
      rw [decide_eq_false_iff_not] at h
      exact absurd ⟨Int32.not_lt.mp h2, h3⟩ h
  · exact zr R () [0, 1, 2] (some (.long (-1))) _ rfl rfl trivial rfl rfl (Nat.zero_le _) (Nat.zero_le _) dzX9_places_23
def plQ (Lf : Nat → Bool) (n v p s : Nat) : Bool := decide (npc 31 s = p) && (!s.testBit v && (allB (fun a => allB (pisIdeal Lf s a) n) n && allB (fun a => allB (pisIdeal Lf (s ||| 2 ^ v) a) n) n))
def plS (Lf : Nat → Bool) (n v p : Nat) (g : Nat → Int64) : Nat → Int64
  | 0 => 0
  | k + 1 => if plQ Lf n v p k = true then plS Lf n v p g k + g k * g (ndf (ndf (2 ^ n - 1) k) (2 ^ v)) else plS Lf n v p g k
set_option maxHeartbeats 4000000 in
set_option maxRecDepth 100000 in
theorem m_places (Lf : Nat → Bool) (g0 : Nat → Int64) {v p : Nat} (hv : v < n) (hp : p < n) (hn : n ≤ 14) : zD K yX9_places cX9_places 6 (some .long) (zq 2 0 0 80) [.ref (A 0), .int (nI v), .int (nI p)] [mO A n cc, mZ K (A 1) Lf, mJ K (A 3) g0] (some (.long (plS Lf n v p (foA Lf n g0) (2 ^ n)))) [mO A n cc, mZ K (A 1) Lf, mJ K (A 3) (foA Lf n g0)] := by
  refine zo (by decide) (Nat.le_of_ble_eq_true rfl) fun x C R _ => ?_
  have hp0 : 0 < 2 ^ n := Nat.two_pow_pos n
  have hp14 := pow_le14 hn
  have loop : ∀ k, k ≤ 2 ^ n → zv_V x (gz K (zq 2 0 0 80) 6 cX9_places yX9_places.cls) 37 [(0, .ref (A 0)), (1, .int (nI v)), (2, .int (nI p)), (3, .long (plS Lf n v p (foA Lf n g0) k)), (5, .int (nI k))] [] [mO A n cc, mZ K (A 1) Lf, mJ K (A 3) (foA Lf n g0)] 0 0 := by
    refine zl (2 ^ n) ?_ fun k hk ih => ?_
    · refine zv_go C okX9_places [] 20 ?_
      refine zv_callV C (m_all K A n cc hn) (zw_V inX9_all kX9_61 ⟨by decide, by decide⟩) [0] 0 rfl rfl rfl rfl (fun _ => Nat.le_refl _) (rest := [.int (nI (2 ^ n))]) rfl rfl (Nat.le_of_ble_eq_true rfl) dzX9_places_40 (by decide) (by decide) rfl (fun _ _ => ?_)
      refine zv_to C rfl rfl (ws' := [mO A n cc, mZ K (A 1) Lf, mJ K (A 3) (foA Lf n g0)]) rfl ?_
      refine zv_go C okX9_places [] 20 ?_
      refine ⟨fun _ => ?_, fun h => absurd (nI_lt (by omega) (by omega)) h⟩
      exact zr R () [0, 1, 2] (some (.long _)) _ rfl rfl trivial rfl rfl (Nat.zero_le _) (Nat.zero_le _) dzX9_places_124
    · have hor : k ||| 2 ^ v < 2 ^ n := nb_lt_or hk (nb_lt_pow hv)
      refine zv_go C okX9_places [] 20 ?_
      refine zv_callV C (m_all K A n cc hn) (zw_V inX9_all kX9_61 ⟨by decide, by decide⟩) [0] 0 rfl rfl rfl rfl (fun _ => Nat.le_refl _) (rest := [.int (nI k)]) rfl rfl (Nat.le_of_ble_eq_true rfl) dzX9_places_40 (by decide) (by decide) rfl (fun _ _ => ?_)
      refine zv_to C rfl rfl (ws' := [mO A n cc, mZ K (A 1) Lf, mJ K (A 3) (foA Lf n g0)]) rfl ?_
      refine zv_go C okX9_places [] 20 ?_
      refine ⟨fun h => absurd h (nI_nlt (by omega) (by omega)), fun _ => ?_⟩
      refine zv_callS C (m_size K (s := k) (by omega)) (zw_S inX9_size kX9_64 ⟨by decide, by decide⟩) [] rfl rfl (fun _ => Nat.le_refl _) rfl rfl (by decide) dzX9_places_48 (by decide) (by decide) rfl (fun _ _ => ?_)
      refine zv_to C rfl rfl (ws' := [mO A n cc, mZ K (A 1) Lf, mJ K (A 3) (foA Lf n g0)]) rfl ?_
      refine zv_go C okX9_places [37] 20 ?_
      refine ⟨fun h1 => ?_, fun h1 => ?_⟩
      · rw [nb_inj (Nat.lt_of_le_of_lt (npc_le 31 k) (by decide)) (by omega)] at h1
        refine zv_to C (lv' := [(0, .ref (A 0)), (1, .int (nI v)), (2, .int (nI p)), (3, .long (plS Lf n v p (foA Lf n g0) (k + 1))), (5, .int (nI (k + 1)))]) (by rw [plS, if_neg (by unfold plQ; rw [decide_eq_false h1]; simp), ← nI_1 k] <;> rfl) rfl rfl ih
      rw [nb_inj (Nat.lt_of_le_of_lt (npc_le 31 k) (by decide)) (by omega)] at h1
      refine zv_callS C (m_isIn K (s := k) (v := v) (by omega) (by omega)) (zw_S inX9_isIn kX9_58 ⟨by decide, by decide⟩) [] rfl rfl (fun _ => Nat.le_refl _) rfl rfl (by decide) dzX9_places_58 (by decide) (by decide) rfl (fun _ _ => ?_)
      refine zv_to C rfl rfl (ws' := [mO A n cc, mZ K (A 1) Lf, mJ K (A 3) (foA Lf n g0)]) rfl ?_
      refine zv_go C okX9_places [37] 20 ?_
      refine ⟨fun h2 => ?_, fun h2 => ?_⟩
      · rw [bI_1] at h2
        refine zv_to C (lv' := [(0, .ref (A 0)), (1, .int (nI v)), (2, .int (nI p)), (3, .long (plS Lf n v p (foA Lf n g0) (k + 1))), (5, .int (nI (k + 1)))]) (by rw [plS, if_neg (by unfold plQ; rw [h2]; simp), ← nI_1 k] <;> rfl) rfl rfl ih
      rw [bI_0] at h2
      refine zv_callV C (m_isIdeal K A n cc Lf (s := k) (by omega) hn) (zw_V inX9_isIdeal kX9_84 ⟨by decide, by decide⟩) [0, 1] 0 rfl rfl rfl rfl (fun _ => Nat.le_refl _) rfl rfl (by decide) dzX9_places_67 (by decide) (by decide) rfl (fun _ _ => ?_)
      refine zv_to C rfl rfl (ws' := [mO A n cc, mZ K (A 1) Lf, mJ K (A 3) (foA Lf n g0)]) rfl ?_
      refine zv_go C okX9_places [37] 20 ?_
      refine ⟨fun h3 => ?_, fun h3 => ?_⟩
      · rw [bI_0] at h3
        refine zv_to C (lv' := [(0, .ref (A 0)), (1, .int (nI v)), (2, .int (nI p)), (3, .long (plS Lf n v p (foA Lf n g0) (k + 1))), (5, .int (nI (k + 1)))]) (by rw [plS, if_neg (by unfold plQ; rw [h3]; simp), ← nI_1 k] <;> rfl) rfl rfl ih
      rw [bI_1] at h3
      refine zv_to C rfl (st' := [.int (nI (k ||| 2 ^ v)), .ref (A 0)]) (by rw [← nb_or, ← nb_1s v (by omega)] <;> rfl) rfl ?_
      refine zv_callV C (m_isIdeal K A n cc Lf (s := k ||| 2 ^ v) (by omega) hn) (zw_V inX9_isIdeal kX9_84 ⟨by decide, by decide⟩) [0, 1] 0 rfl rfl rfl rfl (fun _ => Nat.le_refl _) rfl rfl (by decide) dzX9_places_80 (by decide) (by decide) rfl (fun _ _ => ?_)
      refine zv_to C rfl rfl (ws' := [mO A n cc, mZ K (A 1) Lf, mJ K (A 3) (foA Lf n g0)]) rfl ?_
      refine zv_go C okX9_places [37] 20 ?_
      refine ⟨fun h4 => ?_, fun h4 => ⟨rfl, ⟨rfl, rfl⟩, vp_in_nI (by omega) (by decide), rfl, ?_⟩⟩
      · rw [bI_0] at h4
        refine zv_to C (lv' := [(0, .ref (A 0)), (1, .int (nI v)), (2, .int (nI p)), (3, .long (plS Lf n v p (foA Lf n g0) (k + 1))), (5, .int (nI (k + 1)))]) (by rw [plS, if_neg (by unfold plQ; rw [h4]; simp), ← nI_1 k] <;> rfl) rfl rfl ih
      rw [bI_1] at h4
      refine zv_to C rfl (st' := [.ref (A 0), .ref (A 3), .long ((foA Lf n g0) k), .long (plS Lf n v p (foA Lf n g0) k)]) (by rw [nI_clamp (by omega)] <;> rfl) rfl ?_
      refine zv_callV C (m_all K A n cc hn) (zw_V inX9_all kX9_61 ⟨by decide, by decide⟩) [0] 0 rfl rfl rfl rfl (fun _ => Nat.le_refl _) (rest := [.ref (A 3), .long ((foA Lf n g0) k), .long (plS Lf n v p (foA Lf n g0) k)]) rfl rfl (Nat.le_of_ble_eq_true rfl) dzX9_places_99 (by decide) (by decide) rfl (fun _ _ => ?_)
      refine zv_to C rfl rfl (ws' := [mO A n cc, mZ K (A 1) Lf, mJ K (A 3) (foA Lf n g0)]) rfl ?_
      have hd1 := ndf_le (2 ^ n - 1) k
      have hd2 := ndf_le (ndf (2 ^ n - 1) k) (2 ^ v)
      have ei : (nI (2 ^ n - 1) &&& (nI k ^^^ (-1))) &&& ((1 : Int32) <<< (nI v &&& 31) ^^^ (-1)) = nI (ndf (ndf (2 ^ n - 1) k) (2 ^ v)) := by rw [nb_not, nb_clr _ _ (by omega)]
      refine zv_go C okX9_places [37] 40 ?_
      refine ⟨⟨rfl, rfl⟩, ?_, ?_⟩
      · show vp_in ((nI (2 ^ n - 1) &&& (nI k ^^^ (-1))) &&& ((1 : Int32) <<< (nI v &&& 31) ^^^ (-1))) 16384
        rw [ei]
        exact vp_in_nI (by omega) (by decide)
      refine zv_to C (lv' := [(0, .ref (A 0)), (1, .int (nI v)), (2, .int (nI p)), (3, .long (plS Lf n v p (foA Lf n g0) (k + 1))), (5, .int (nI (k + 1)))]) ?_ rfl rfl ih
      show [_, _, _, (3, Value.long (plS Lf n v p (foA Lf n g0) k + (foA Lf n g0) k * (foA Lf n g0) ((nI (2 ^ n - 1) &&& (nI k ^^^ (-1))) &&& ((1 : Int32) <<< (nI v &&& 31) ^^^ (-1))).toNatClampNeg)), (5, Value.int (nI k + 1))] = _
      rw [ei, nI_clamp (by omega), plS, if_pos (by unfold plQ; rw [decide_eq_true h1, h2, h3, h4]; rfl), nI_1]
  refine zv_go C okX9_places [] 20 ?_
  refine zv_callV C (m_has K A n cc (nI v)) (zw_V inX9_has kX9_42 ⟨by decide, by decide⟩) [0] 0 rfl rfl rfl rfl (fun _ => Nat.le_refl _) rfl rfl (by decide) dzX9_places_2 (by decide) (by decide) rfl (fun _ _ => ?_)
  refine zv_to C rfl rfl (ws' := [mO A n cc, mZ K (A 1) Lf, mJ K (A 3) g0]) rfl ?_
  refine zv_go C okX9_places [] 20 ?_
  refine ⟨fun h1 => ?_, fun h1 => ⟨fun h2 => ?_, fun h2 => ⟨rfl, fun h3 => ⟨rfl, ?_⟩, fun h3 => ?_⟩⟩⟩
  · rw [bI_0, hasb_nI (by omega) (by omega), decide_eq_false_iff_not] at h1; exact absurd hv h1
  · exact absurd h2 (nI_nlt (b := 0) (Nat.zero_le _) (by omega))
  rotate_left
  · exact absurd (nI_lt (by omega) (by omega)) h3
  refine zv_callV C (m_findOrders K A n cc Lf (A 1) g0 hn) (zw_V inX9_findOrders kX9_96 ⟨by decide, by decide⟩) [0, 1, 2] 0 rfl rfl rfl rfl (fun _ => Nat.le_refl _) rfl rfl (by decide) dzX9_places_29 (by decide) (by decide) rfl (fun _ _ => ?_)
  refine zv_to C rfl rfl (ws' := [mO A n cc, mZ K (A 1) Lf, mJ K (A 3) (foA Lf n g0)]) rfl ?_
  refine zv_go C okX9_places [37] 20 ?_
  exact loop 0 (Nat.zero_le _)
end ME
