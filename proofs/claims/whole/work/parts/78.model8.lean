/-! THE MODEL: muOfCuts, mu -/
theorem u3_2 (f : Nat → Int32) (k : Nat) (x y : Int32) : upd (upd f k x) k y = upd f k y := by
  funext j
  by_cases h : j = k
  · rw [h, pk_us, pk_us]
  · rw [pk_un h, pk_un h, pk_un h]
def mcT (cv : Nat → Nat) (i y x : Nat) : Bool := decide (ndf (cv i) (cv y) = 0) && decide (ndf (cv y) (cv x) = 0)
def mcY (cv : Nat → Nat) (i x : Nat) (M : Nat → Int32) : Nat → Int32
  | 0 => if x = i then 1 else 0
  | m + 1 => mcY cv i x M m - (if mcT cv i (i + m) x = true then M (i + m) else 0)
def mcX (cv : Nat → Nat) (i l : Nat) (μ : Nat → Int32) : Nat → (Nat → Int32)
  | 0 => μ
  | d + 1 => upd (mcX cv i l μ d) (i + d) (if mcT cv i (i + d) l = true then mcY cv i (i + d) (mcX cv i l μ d) d else (if i + d = i then 1 else 0))
def quB (Lf : Nat → Bool) (a x y : Nat) : Bool := (decide (y = a) || Lf (16 * a + y)) && Lf (16 * y + x)
def quU (Lf : Nat → Bool) (a x : Nat) : Nat → Nat
  | 0 => 0
  | y + 1 => quU Lf a x y + (quB Lf a x y).toNat
def quS (Lf : Nat → Bool) (a x : Nat) (M : Nat → Int32) : Nat → Int32
  | 0 => if x = a then -1 else 0
  | y + 1 => quS Lf a x M y + (if quB Lf a x y = true then M y else 0)
def quX (Lf : Nat → Bool) (n a h : Nat) (M : Nat → Int32) : Nat → (Nat → Int32)
  | 0 => M
  | x + 1 => if ((decide (x = a) || Lf (16 * a + x)) && decide (quU Lf a x n = h)) = true then upd (quX Lf n a h M x) x (-(quS Lf a x (quX Lf n a h M x) n)) else quX Lf n a h M x
def quH (Lf : Nat → Bool) (n a : Nat) (μ : Nat → Int32) : Nat → (Nat → Int32)
  | 0 => μ
  | h + 1 => quX Lf n a h (quH Lf n a μ h) n
theorem quU_le (Lf : Nat → Bool) (a x : Nat) : ∀ k, quU Lf a x k ≤ k
  | 0 => Nat.le_refl _
  | k + 1 => by
    have h := quU_le Lf a x k
    unfold quU
    cases quB Lf a x k <;> simp <;> omega
section MH
variable (K : zK) (A : Nat → Nat) (n : Nat) (cc : Int32)
set_option maxHeartbeats 4000000 in
set_option maxRecDepth 100000 in
theorem m_muOfCuts_no (Lf : Nat → Bool) (f0 μ0 : Nat → Int32) (k l : Int32) (h : hasb (mcN Lf n) k = false ∨ hasb (mcN Lf n) l = false) (hn : n ≤ 14) : zD K yX9_muOfCuts cX9_muOfCuts 7 (some .int) (zq 3 0 0 120) [.ref (A 0), .int k, .int l] [mO A n cc, mZ K (A 1) Lf, mI K (A 4) 16384 f0, mI K (A 5) 16384 μ0] (some (.int 0)) [mO A n (nI (mcN Lf n)), mZ K (A 1) Lf, mI K (A 4) 16384 (fcA Lf n f0 (2 ^ n)), mI K (A 5) 16384 μ0] := by
  refine zo (by decide) (Nat.le_of_ble_eq_true rfl) fun x C R _ => ?_
  have hp : 0 < 2 ^ n := Nat.two_pow_pos n
  have hp14 := pow_le14 hn
  have hNle : mcN Lf n ≤ 2 ^ n := fcN_le Lf n (2 ^ n)
  have hfa : ∀ j, j < mcN Lf n → fcA Lf n f0 (2 ^ n) j = nI (mcV Lf n j) := fun j hj => if_pos hj
  have hcl : ∀ j, j < mcN Lf n → mcV Lf n j < 2 ^ 14 := fun j hj => Nat.lt_of_lt_of_le (fcV_lt Lf n (2 ^ n) j hj) (by omega)
  refine zv_go C okX9_muOfCuts [] 20 ?_
  refine zv_callV C (m_findCuts K A n cc Lf f0 hn) (zw_V inX9_findCuts kX9_87 ⟨by decide, by decide⟩) [0, 1, 2] 0 rfl rfl rfl rfl (fun _ => Nat.le_refl _) rfl rfl (by decide) dzX9_muOfCuts_1 (by decide) (by decide) rfl (fun _ _ => ?_)
  refine zv_to C rfl rfl (ws' := [mO A n (nI (mcN Lf n)), mZ K (A 1) Lf, mI K (A 4) 16384 (fcA Lf n f0 (2 ^ n)), mI K (A 5) 16384 μ0]) rfl ?_
  refine zv_go C okX9_muOfCuts [28] 20 ?_
  refine ⟨fun h1 => ?_, fun h1 => ⟨rfl, fun h2 => ?_, fun h2 => ⟨fun h3 => ?_, fun h3 => ⟨rfl, fun h4 => ?_, fun h4 => ?_⟩⟩⟩⟩
  · exact zr R () [0, 1, 2, 3] (some (.int 0)) _ rfl rfl trivial rfl rfl (Nat.zero_le _) (Nat.zero_le _) dzX9_muOfCuts_47
  · exact zr R () [0, 1, 2, 3] (some (.int 0)) _ rfl rfl trivial rfl rfl (Nat.zero_le _) (Nat.zero_le _) dzX9_muOfCuts_47
  · exact zr R () [0, 1, 2, 3] (some (.int 0)) _ rfl rfl trivial rfl rfl (Nat.zero_le _) (Nat.zero_le _) dzX9_muOfCuts_47
  · exact zr R () [0, 1, 2, 3] (some (.int 0)) _ rfl rfl trivial rfl rfl (Nat.zero_le _) (Nat.zero_le _) dzX9_muOfCuts_47
  · unfold hasb at h
    rw [decide_eq_false_iff_not, decide_eq_false_iff_not] at h
    exact absurd h (fun q => q.elim (fun z => z ⟨Int32.not_lt.mp h1, Int32.not_le.mp h2⟩) (fun z => z ⟨Int32.not_lt.mp h3, Int32.not_le.mp h4⟩))
set_option maxHeartbeats 4000000 in
set_option maxRecDepth 100000 in
theorem m_muOfCuts_0 (Lf : Nat → Bool) (f0 μ0 : Nat → Int32) {i j : Nat} (hi : i < mcN Lf n) (hj : j < mcN Lf n) (hd : ndf (mcV Lf n i) (mcV Lf n j) ≠ 0) (hn : n ≤ 14) : zD K yX9_muOfCuts cX9_muOfCuts 7 (some .int) (zq 3 0 0 120) [.ref (A 0), .int (nI i), .int (nI j)] [mO A n cc, mZ K (A 1) Lf, mI K (A 4) 16384 f0, mI K (A 5) 16384 μ0] (some (.int 0)) [mO A n (nI (mcN Lf n)), mZ K (A 1) Lf, mI K (A 4) 16384 (fcA Lf n f0 (2 ^ n)), mI K (A 5) 16384 μ0] := by
  refine zo (by decide) (Nat.le_of_ble_eq_true rfl) fun x C R _ => ?_
  have hp : 0 < 2 ^ n := Nat.two_pow_pos n
  have hp14 := pow_le14 hn
  have hNle : mcN Lf n ≤ 2 ^ n := fcN_le Lf n (2 ^ n)
  have hfa : ∀ j, j < mcN Lf n → fcA Lf n f0 (2 ^ n) j = nI (mcV Lf n j) := fun j hj => if_pos hj
  have hcl : ∀ j, j < mcN Lf n → mcV Lf n j < 2 ^ 14 := fun j hj => Nat.lt_of_lt_of_le (fcV_lt Lf n (2 ^ n) j hj) (by omega)
  have hin : ∀ j, j < mcN Lf n → vp_in (nI j) 16384 := fun j hj => vp_in_nI (by omega) (by decide)
  have sub : ∀ a b, a < mcN Lf n → b < mcN Lf n → (fcA Lf n f0 (2 ^ n) (nI a).toNatClampNeg &&& (fcA Lf n f0 (2 ^ n) (nI b).toNatClampNeg ^^^ (-1)) = 0 ↔ ndf (mcV Lf n a) (mcV Lf n b) = 0) := by
    intro a b ha hb
    rw [nI_clamp (by omega), nI_clamp (by omega), hfa a ha, hfa b hb, nb_n0 (hcl a ha)]
  refine zv_go C okX9_muOfCuts [] 20 ?_
  refine zv_callV C (m_findCuts K A n cc Lf f0 hn) (zw_V inX9_findCuts kX9_87 ⟨by decide, by decide⟩) [0, 1, 2] 0 rfl rfl rfl rfl (fun _ => Nat.le_refl _) rfl rfl (by decide) dzX9_muOfCuts_1 (by decide) (by decide) rfl (fun _ _ => ?_)
  refine zv_to C rfl rfl (ws' := [mO A n (nI (mcN Lf n)), mZ K (A 1) Lf, mI K (A 4) 16384 (fcA Lf n f0 (2 ^ n)), mI K (A 5) 16384 μ0]) rfl ?_
  refine zv_go C okX9_muOfCuts [50] 40 ?_
  refine ⟨fun h1 => absurd h1 (nI_nlt (b := 0) (Nat.zero_le _) (by omega)), fun h1 => ⟨rfl, fun h2 => absurd h2 (nI_ge hi (by omega)), fun h2 => ⟨fun h3 => absurd h3 (nI_nlt (b := 0) (Nat.zero_le _) (by omega)), fun h3 => ⟨rfl, fun h4 => absurd h4 (nI_ge hj (by omega)), fun h4 => ⟨rfl, ⟨rfl, rfl⟩, hin i hi, rfl, ⟨rfl, rfl⟩, hin j hj, fun h5 => ?_, fun h5 => ?_⟩⟩⟩⟩⟩
  · exact absurd ((sub i j hi hj).mp h5) hd
  · exact zr R () [0, 1, 2, 3] (some (.int 0)) _ rfl rfl trivial rfl rfl (Nat.zero_le _) (Nat.zero_le _) dzX9_muOfCuts_47
set_option maxHeartbeats 4000000 in
set_option maxRecDepth 100000 in
theorem m_muOfCuts (Lf : Nat → Bool) (f0 μ0 : Nat → Int32) {i j : Nat} (hi : i < mcN Lf n) (hj : j < mcN Lf n) (hij : i ≤ j) (hd : ndf (mcV Lf n i) (mcV Lf n j) = 0) (hn : n ≤ 14) : zD K yX9_muOfCuts cX9_muOfCuts 7 (some .int) (zq 3 0 0 120) [.ref (A 0), .int (nI i), .int (nI j)] [mO A n cc, mZ K (A 1) Lf, mI K (A 4) 16384 f0, mI K (A 5) 16384 μ0] (some (.int ((mcX (mcV Lf n) i j μ0 (j + 1 - i)) j))) [mO A n (nI (mcN Lf n)), mZ K (A 1) Lf, mI K (A 4) 16384 (fcA Lf n f0 (2 ^ n)), mI K (A 5) 16384 (mcX (mcV Lf n) i j μ0 (j + 1 - i))] := by
  refine zo (by decide) (Nat.le_of_ble_eq_true rfl) fun x C R _ => ?_
  have hp : 0 < 2 ^ n := Nat.two_pow_pos n
  have hp14 := pow_le14 hn
  have hNle : mcN Lf n ≤ 2 ^ n := fcN_le Lf n (2 ^ n)
  have hfa : ∀ j, j < mcN Lf n → fcA Lf n f0 (2 ^ n) j = nI (mcV Lf n j) := fun j hj => if_pos hj
  have hcl : ∀ j, j < mcN Lf n → mcV Lf n j < 2 ^ 14 := fun j hj => Nat.lt_of_lt_of_le (fcV_lt Lf n (2 ^ n) j hj) (by omega)
  have hin : ∀ j, j < mcN Lf n → vp_in (nI j) 16384 := fun j hj => vp_in_nI (by omega) (by decide)
  have sub : ∀ a b, a < mcN Lf n → b < mcN Lf n → (fcA Lf n f0 (2 ^ n) (nI a).toNatClampNeg &&& (fcA Lf n f0 (2 ^ n) (nI b).toNatClampNeg ^^^ (-1)) = 0 ↔ ndf (mcV Lf n a) (mcV Lf n b) = 0) := by
    intro a b ha hb
    rw [nI_clamp (by omega), nI_clamp (by omega), hfa a ha, hfa b hb, nb_n0 (hcl a ha)]
  have inner : ∀ d, i + d ≤ j → mcT (mcV Lf n) i (i + d) j = true → (∀ lv2 : zv_L, (lv2 = [] ∨ ∃ z w, lv2 = [(5, .int z), (6, .int w)] ∨ lv2 = [(5, .int z)]) → zv_V x (gz K (zq 3 0 0 120) 7 cX9_muOfCuts yX9_muOfCuts.cls) 204 ([(0, .ref (A 0)), (1, .int (nI i)), (2, .int (nI j)), (3, .int (nI (i + d))), (4, .int (bI true))] ++ lv2) [] [mO A n (nI (mcN Lf n)), mZ K (A 1) Lf, mI K (A 4) 16384 (fcA Lf n f0 (2 ^ n)), mI K (A 5) 16384 (upd (mcX (mcV Lf n) i j μ0 d) (i + d) (mcY (mcV Lf n) i (i + d) (mcX (mcV Lf n) i j μ0 d) d))] 0 0) → ∀ y, y ≤ d → zv_V x (gz K (zq 3 0 0 120) 7 cX9_muOfCuts yX9_muOfCuts.cls) 117 [(0, .ref (A 0)), (1, .int (nI i)), (2, .int (nI j)), (3, .int (nI (i + d))), (4, .int (bI true)), (5, .int (nI (i + y)))] [] [mO A n (nI (mcN Lf n)), mZ K (A 1) Lf, mI K (A 4) 16384 (fcA Lf n f0 (2 ^ n)), mI K (A 5) 16384 (upd (mcX (mcV Lf n) i j μ0 d) (i + d) (mcY (mcV Lf n) i (i + d) (mcX (mcV Lf n) i j μ0 d) y))] 0 0 := by
    intro d hdj hbt hend
    refine zl d ?_ fun y hy ih => ?_
    · refine zv_go C okX9_muOfCuts [204] 20 ?_
      refine ⟨fun _ => ?_, fun h => absurd (nI_le (Nat.le_refl _) (by omega)) h⟩
      exact hend [_] (Or.inr ⟨_, 0, Or.inr rfl⟩)
    · have ex : (nI (i + d)).toNatClampNeg = i + d := nI_clamp (by omega)
      have ey : (nI (i + y)).toNatClampNeg = i + y := nI_clamp (by omega)
      have join : ∀ b, b = mcT (mcV Lf n) i (i + y) (i + d) → zv_V x (gz K (zq 3 0 0 120) 7 cX9_muOfCuts yX9_muOfCuts.cls) 171 [(0, .ref (A 0)), (1, .int (nI i)), (2, .int (nI j)), (3, .int (nI (i + d))), (4, .int (bI true)), (5, .int (nI (i + y)))] [.int (bI b)] [mO A n (nI (mcN Lf n)), mZ K (A 1) Lf, mI K (A 4) 16384 (fcA Lf n f0 (2 ^ n)), mI K (A 5) 16384 (upd (mcX (mcV Lf n) i j μ0 d) (i + d) (mcY (mcV Lf n) i (i + d) (mcX (mcV Lf n) i j μ0 d) y))] 0 0 := by
        intro b hb
        refine zv_go C okX9_muOfCuts [117] 40 ?_
        refine ⟨rfl, ⟨rfl, rfl⟩, hin _ (by omega), fun h => ⟨⟨rfl, rfl⟩, hin _ (by omega), ?_⟩, fun h => ⟨rfl, ⟨rfl, rfl⟩, hin _ (by omega), ⟨rfl, rfl⟩, hin _ (by omega), ?_⟩⟩
        · rw [bI_0] at h
          refine zv_drop C [0, 1, 2, 3, 4, 5] (lv' := [(0, .ref (A 0)), (1, .int (nI i)), (2, .int (nI j)), (3, .int (nI (i + d))), (4, .int (bI true)), (5, .int (nI (i + (y + 1))))]) (by rw [← Nat.add_assoc, ← nI_1 (i + y)] <;> rfl) ?_
          refine zv_to C rfl rfl (ws' := [mO A n (nI (mcN Lf n)), mZ K (A 1) Lf, mI K (A 4) 16384 (fcA Lf n f0 (2 ^ n)), mI K (A 5) 16384 (upd (mcX (mcV Lf n) i j μ0 d) (i + d) (mcY (mcV Lf n) i (i + d) (mcX (mcV Lf n) i j μ0 d) (y + 1)))]) ?_ ih
          show [_, _, _, (A 5, Sum.inl (cI K, 16384, Sum.inl (upd (upd (mcX (mcV Lf n) i j μ0 d) (i + d) (mcY (mcV Lf n) i (i + d) (mcX (mcV Lf n) i j μ0 d) y)) (nI (i + d)).toNatClampNeg (upd (mcX (mcV Lf n) i j μ0 d) (i + d) (mcY (mcV Lf n) i (i + d) (mcX (mcV Lf n) i j μ0 d) y) (nI (i + d)).toNatClampNeg - 0))))] = _
          rw [ex, u3_2, pk_us, mcY, ← hb, h]
          rfl
        · rw [bI_1] at h
          refine zv_drop C [0, 1, 2, 3, 4, 5] (lv' := [(0, .ref (A 0)), (1, .int (nI i)), (2, .int (nI j)), (3, .int (nI (i + d))), (4, .int (bI true)), (5, .int (nI (i + (y + 1))))]) (by rw [← Nat.add_assoc, ← nI_1 (i + y)] <;> rfl) ?_
          refine zv_to C rfl rfl (ws' := [mO A n (nI (mcN Lf n)), mZ K (A 1) Lf, mI K (A 4) 16384 (fcA Lf n f0 (2 ^ n)), mI K (A 5) 16384 (upd (mcX (mcV Lf n) i j μ0 d) (i + d) (mcY (mcV Lf n) i (i + d) (mcX (mcV Lf n) i j μ0 d) (y + 1)))]) ?_ ih
          show [_, _, _, (A 5, Sum.inl (cI K, 16384, Sum.inl (upd (upd (mcX (mcV Lf n) i j μ0 d) (i + d) (mcY (mcV Lf n) i (i + d) (mcX (mcV Lf n) i j μ0 d) y)) (nI (i + d)).toNatClampNeg (upd (mcX (mcV Lf n) i j μ0 d) (i + d) (mcY (mcV Lf n) i (i + d) (mcX (mcV Lf n) i j μ0 d) y) (nI (i + d)).toNatClampNeg - upd (mcX (mcV Lf n) i j μ0 d) (i + d) (mcY (mcV Lf n) i (i + d) (mcX (mcV Lf n) i j μ0 d) y) (nI (i + y)).toNatClampNeg))))] = _
          rw [ex, ey, u3_2, pk_us, pk_un (by omega), mcY, ← hb, if_pos h]
      refine zv_go C okX9_muOfCuts [171] 40 ?_
      refine ⟨fun h => absurd h (nI_ge (by omega) (by omega)), fun _ => ⟨fun h => absurd h (by decide), fun _ => ⟨rfl, ⟨rfl, rfl⟩, hin _ (by omega), rfl, ⟨rfl, rfl⟩, hin _ (by omega), fun h => ?_, fun h => ⟨rfl, ⟨rfl, rfl⟩, hin _ (by omega), rfl, ⟨rfl, rfl⟩, hin _ (by omega), fun h2 => ?_, fun h2 => ?_⟩⟩⟩⟩
      · have h := fun q => h ((sub i (i + y) (by omega) (by omega)).mpr q)
        exact join false (by unfold mcT; rw [decide_eq_false h]; rfl)
      · have h := (sub i (i + y) (by omega) (by omega)).mp h
        have h2 := fun q => h2 ((sub (i + y) (i + d) (by omega) (by omega)).mpr q)
        exact join false (by unfold mcT; rw [decide_eq_true h, decide_eq_false h2]; rfl)
      · have h := (sub i (i + y) (by omega) (by omega)).mp h
        have h2 := (sub (i + y) (i + d) (by omega) (by omega)).mp h2
        exact join true (by unfold mcT; rw [decide_eq_true h, decide_eq_true h2]; rfl)
  have loop : ∀ d, d ≤ j + 1 - i → zv_V x (gz K (zq 3 0 0 120) 7 cX9_muOfCuts yX9_muOfCuts.cls) 50 [(0, .ref (A 0)), (1, .int (nI i)), (2, .int (nI j)), (3, .int (nI (i + d)))] [] [mO A n (nI (mcN Lf n)), mZ K (A 1) Lf, mI K (A 4) 16384 (fcA Lf n f0 (2 ^ n)), mI K (A 5) 16384 (mcX (mcV Lf n) i j μ0 d)] 0 0 := by
    refine zl (j + 1 - i) ?_ fun d hd2 ih => ?_
    · refine zv_go C okX9_muOfCuts [] 20 ?_
      refine ⟨fun _ => ⟨rfl, ⟨rfl, rfl⟩, hin j hj, ?_⟩, fun h => absurd (nI_lt (by omega) (by omega)) h⟩
      exact zr R () [0, 1, 2, 3] (some (.int _)) _ (by rw [nI_clamp (by omega)]) rfl trivial rfl rfl (Nat.zero_le _) (Nat.zero_le _) dzX9_muOfCuts_216
    · have ex : (nI (i + d)).toNatClampNeg = i + d := nI_clamp (by omega)
      have back : ∀ (bt : Bool) (v : Int32) (lv2 : zv_L), v = (if mcT (mcV Lf n) i (i + d) j = true then (mcY (mcV Lf n) i (i + d) (mcX (mcV Lf n) i j μ0 d) d) else (if i + d = i then 1 else 0)) → (lv2 = [] ∨ ∃ z w, lv2 = [(5, .int z), (6, .int w)] ∨ lv2 = [(5, .int z)]) → zv_V x (gz K (zq 3 0 0 120) 7 cX9_muOfCuts yX9_muOfCuts.cls) 204 ([(0, .ref (A 0)), (1, .int (nI i)), (2, .int (nI j)), (3, .int (nI (i + d))), (4, .int (bI bt))] ++ lv2) [] [mO A n (nI (mcN Lf n)), mZ K (A 1) Lf, mI K (A 4) 16384 (fcA Lf n f0 (2 ^ n)), mI K (A 5) 16384 (upd (mcX (mcV Lf n) i j μ0 d) (i + d) v)] 0 0 := by
        intro bt v lv2 hv hl2
        refine zv_drop C [0, 1, 2, 3] (lv' := [(0, .ref (A 0)), (1, .int (nI i)), (2, .int (nI j)), (3, .int (nI (i + d)))]) (by rcases hl2 with rfl | ⟨z, w, rfl | rfl⟩ <;> rfl) ?_
        refine zv_go C okX9_muOfCuts [50] 20 ?_
        refine zv_to C (lv' := [(0, .ref (A 0)), (1, .int (nI i)), (2, .int (nI j)), (3, .int (nI (i + (d + 1))))]) (by rw [← Nat.add_assoc, ← nI_1 (i + d)] <;> rfl) rfl (ws' := [mO A n (nI (mcN Lf n)), mZ K (A 1) Lf, mI K (A 4) 16384 (fcA Lf n f0 (2 ^ n)), mI K (A 5) 16384 (mcX (mcV Lf n) i j μ0 (d + 1))]) (by rw [mcX, hv]) ih
      have join : ∀ bt, bt = mcT (mcV Lf n) i (i + d) j → zv_V x (gz K (zq 3 0 0 120) 7 cX9_muOfCuts yX9_muOfCuts.cls) 96 [(0, .ref (A 0)), (1, .int (nI i)), (2, .int (nI j)), (3, .int (nI (i + d)))] [.int (bI bt)] [mO A n (nI (mcN Lf n)), mZ K (A 1) Lf, mI K (A 4) 16384 (fcA Lf n f0 (2 ^ n)), mI K (A 5) 16384 (mcX (mcV Lf n) i j μ0 d)] 0 0 := by
        intro bt hbt
        have nxt : zv_V x (gz K (zq 3 0 0 120) 7 cX9_muOfCuts yX9_muOfCuts.cls) 117 [(0, .ref (A 0)), (1, .int (nI i)), (2, .int (nI j)), (3, .int (nI (i + d))), (4, .int (bI bt)), (5, .int (nI i))] [] [mO A n (nI (mcN Lf n)), mZ K (A 1) Lf, mI K (A 4) 16384 (fcA Lf n f0 (2 ^ n)), mI K (A 5) 16384 (upd (mcX (mcV Lf n) i j μ0 d) (i + d) (mcY (mcV Lf n) i (i + d) (mcX (mcV Lf n) i j μ0 d) 0))] 0 0 := by
          cases hb : bt with
          | true =>
            refine inner d (by omega) (by rw [← hbt, hb]) (fun lv2 hl2 => back true _ lv2 (by rw [← hbt, hb, if_pos rfl]) hl2) 0 (Nat.zero_le _)
          | false =>
            refine zv_go C okX9_muOfCuts [204] 20 ?_
            refine ⟨fun _ => ?_, fun _ => ⟨fun _ => ?_, fun h => absurd rfl h⟩⟩
            · exact back false _ [_] (by rw [← hbt, hb] <;> rfl) (Or.inr ⟨_, 0, Or.inr rfl⟩)
            · exact back false _ [_] (by rw [← hbt, hb] <;> rfl) (Or.inr ⟨_, 0, Or.inr rfl⟩)
        refine zv_go C okX9_muOfCuts [117] 30 ?_
        refine ⟨rfl, fun h => ⟨⟨rfl, rfl⟩, hin _ (by omega), ?_⟩, fun h => ⟨⟨rfl, rfl⟩, hin _ (by omega), ?_⟩⟩
        · rw [nb_inj (by omega) (by omega)] at h
          refine zv_to C rfl rfl ?_ nxt
          show [_, _, _, (A 5, Sum.inl (cI K, 16384, Sum.inl (upd (mcX (mcV Lf n) i j μ0 d) (nI (i + d)).toNatClampNeg 0)))] = _
          rw [ex, mcY, if_neg h]
        · rw [nb_inj (by omega) (by omega)] at h
          refine zv_to C rfl rfl ?_ nxt
          show [_, _, _, (A 5, Sum.inl (cI K, 16384, Sum.inl (upd (mcX (mcV Lf n) i j μ0 d) (nI (i + d)).toNatClampNeg 1)))] = _
          rw [ex, mcY, if_pos h]
      refine zv_go C okX9_muOfCuts [96] 40 ?_
      refine ⟨fun h => absurd h (nI_nlt (by omega) (by omega)), fun _ => ⟨rfl, ⟨rfl, rfl⟩, hin _ (by omega), rfl, ⟨rfl, rfl⟩, hin _ (by omega), fun h => ?_, fun h => ⟨rfl, ⟨rfl, rfl⟩, hin _ (by omega), rfl, ⟨rfl, rfl⟩, hin _ (by omega), fun h2 => ?_, fun h2 => ?_⟩⟩⟩
      · have h := fun q => h ((sub i (i + d) (by omega) (by omega)).mpr q)
        exact join false (by unfold mcT; rw [decide_eq_false h]; rfl)
      · have h := (sub i (i + d) (by omega) (by omega)).mp h
        have h2 := fun q => h2 ((sub (i + d) j (by omega) (by omega)).mpr q)
        exact join false (by unfold mcT; rw [decide_eq_true h, decide_eq_false h2]; rfl)
      · have h := (sub i (i + d) (by omega) (by omega)).mp h
        have h2 := (sub (i + d) j (by omega) (by omega)).mp h2
        exact join true (by unfold mcT; rw [decide_eq_true h, decide_eq_true h2]; rfl)
  refine zv_go C okX9_muOfCuts [] 20 ?_
  refine zv_callV C (m_findCuts K A n cc Lf f0 hn) (zw_V inX9_findCuts kX9_87 ⟨by decide, by decide⟩) [0, 1, 2] 0 rfl rfl rfl rfl (fun _ => Nat.le_refl _) rfl rfl (by decide) dzX9_muOfCuts_1 (by decide) (by decide) rfl (fun _ _ => ?_)
  refine zv_to C rfl rfl (ws' := [mO A n (nI (mcN Lf n)), mZ K (A 1) Lf, mI K (A 4) 16384 (fcA Lf n f0 (2 ^ n)), mI K (A 5) 16384 μ0]) rfl ?_
  refine zv_go C okX9_muOfCuts [50] 40 ?_
  refine ⟨fun h1 => absurd h1 (nI_nlt (b := 0) (Nat.zero_le _) (by omega)), fun h1 => ⟨rfl, fun h2 => absurd h2 (nI_ge hi (by omega)), fun h2 => ⟨fun h3 => absurd h3 (nI_nlt (b := 0) (Nat.zero_le _) (by omega)), fun h3 => ⟨rfl, fun h4 => absurd h4 (nI_ge hj (by omega)), fun h4 => ⟨rfl, ⟨rfl, rfl⟩, hin i hi, rfl, ⟨rfl, rfl⟩, hin j hj, fun h5 => ?_, fun h5 => ?_⟩⟩⟩⟩⟩
  · exact loop 0 (Nat.zero_le _)
  · exact absurd ((sub i j hi hj).mpr hd) h5
set_option maxHeartbeats 4000000 in
set_option maxRecDepth 100000 in
theorem m_mu_no (Lf : Nat → Bool) (μ0 : Nat → Int32) (a b : Int32) (h : hasb n a = false ∨ hasb n b = false) : zD K yX9_mu cX9_mu 9 (some .int) (zq 1 0 0 40) [.ref (A 0), .int a, .int b] [mO A n cc, mZ K (A 1) Lf, mI K (A 5) 16384 μ0] (some (.int 0)) [mO A n cc, mZ K (A 1) Lf, mI K (A 5) 16384 μ0] := by
  refine zo (by decide) (Nat.le_of_ble_eq_true rfl) fun x C R _ => ?_
  refine zv_go C okX9_mu [] 20 ?_
  refine zv_callV C (m_has K A n cc a) (zw_V inX9_has kX9_42 ⟨by decide, by decide⟩) [0] 0 rfl rfl rfl rfl (fun _ => Nat.le_refl _) rfl rfl (by decide) dzX9_mu_2 (by decide) (by decide) rfl (fun _ _ => ?_)
  refine zv_to C rfl rfl (ws' := [mO A n cc, mZ K (A 1) Lf, mI K (A 5) 16384 μ0]) rfl ?_
  refine zv_go C okX9_mu [] 20 ?_
  refine ⟨fun h1 => ?_, fun h1 => ?_⟩
  · exact zr R () [0, 1, 2] (some (.int 0)) _ rfl rfl trivial rfl rfl (Nat.zero_le _) (Nat.zero_le _) dzX9_mu_31
  refine zv_callV C (m_has K A n cc b) (zw_V inX9_has kX9_42 ⟨by decide, by decide⟩) [0] 0 rfl rfl rfl rfl (fun _ => Nat.le_refl _) rfl rfl (by decide) dzX9_mu_10 (by decide) (by decide) rfl (fun _ _ => ?_)
  refine zv_to C rfl rfl (ws' := [mO A n cc, mZ K (A 1) Lf, mI K (A 5) 16384 μ0]) rfl ?_
  refine zv_go C okX9_mu [16] 20 ?_
  refine ⟨fun h2 => ?_, fun h2 => ?_⟩
  · exact zr R () [0, 1, 2] (some (.int 0)) _ rfl rfl trivial rfl rfl (Nat.zero_le _) (Nat.zero_le _) dzX9_mu_31
  rw [bI_1] at h1 h2
  rcases h with h | h
  · rw [h] at h1; cases h1
  · rw [h] at h2; cases h2
set_option maxHeartbeats 4000000 in
set_option maxRecDepth 100000 in
theorem m_mu_0 (Lf : Nat → Bool) (μ0 : Nat → Int32) {i j : Nat} (hi : i < n) (hj : j < n) (hn : n ≤ 14) (hij : i ≠ j) (hl : Lf (16 * i + j) = false) : zD K yX9_mu cX9_mu 9 (some .int) (zq 1 0 0 40) [.ref (A 0), .int (nI i), .int (nI j)] [mO A n cc, mZ K (A 1) Lf, mI K (A 5) 16384 μ0] (some (.int 0)) [mO A n cc, mZ K (A 1) Lf, mI K (A 5) 16384 μ0] := by
  refine zo (by decide) (Nat.le_of_ble_eq_true rfl) fun x C R _ => ?_
  refine zv_go C okX9_mu [] 20 ?_
  refine zv_callV C (m_has K A n cc (nI i)) (zw_V inX9_has kX9_42 ⟨by decide, by decide⟩) [0] 0 rfl rfl rfl rfl (fun _ => Nat.le_refl _) rfl rfl (by decide) dzX9_mu_2 (by decide) (by decide) rfl (fun _ _ => ?_)
  refine zv_to C rfl rfl (ws' := [mO A n cc, mZ K (A 1) Lf, mI K (A 5) 16384 μ0]) rfl ?_
  refine zv_go C okX9_mu [] 20 ?_
  refine ⟨fun h1 => ?_, fun h1 => ?_⟩
  · rw [bI_0, hasb_nI (by omega) (by omega), decide_eq_false_iff_not] at h1; exact absurd hi h1
  refine zv_callV C (m_has K A n cc (nI j)) (zw_V inX9_has kX9_42 ⟨by decide, by decide⟩) [0] 0 rfl rfl rfl rfl (fun _ => Nat.le_refl _) rfl rfl (by decide) dzX9_mu_10 (by decide) (by decide) rfl (fun _ _ => ?_)
  refine zv_to C rfl rfl (ws' := [mO A n cc, mZ K (A 1) Lf, mI K (A 5) 16384 μ0]) rfl ?_
  refine zv_go C okX9_mu [34] 20 ?_
  refine ⟨fun h1 => ?_, fun h1 => ⟨fun h3 => ?_, fun h3 => ?_⟩⟩
  · rw [bI_0, hasb_nI (by omega) (by omega), decide_eq_false_iff_not] at h1; exact absurd hj h1
  · exact absurd ((nb_inj (by omega) (by omega)).mp h3) hij
  refine zv_callV C (m_is K A n cc Lf (a := i) (b := j) (by omega)) (zw_V inX9_is kX9_46 ⟨by decide, by decide⟩) [0, 1] 0 rfl rfl rfl rfl (fun _ => Nat.le_refl _) rfl rfl (by decide) dzX9_mu_24 (by decide) (by decide) rfl (fun _ _ => ?_)
  refine zv_to C rfl rfl (ws' := [mO A n cc, mZ K (A 1) Lf, mI K (A 5) 16384 μ0]) rfl ?_
  refine zv_go C okX9_mu [34] 20 ?_
  refine ⟨fun h4 => ?_, fun h4 => ?_⟩
  · rw [bI_1, hl] at h4; cases h4
  · exact zr R () [0, 1, 2] (some (.int 0)) _ rfl rfl trivial rfl rfl (Nat.zero_le _) (Nat.zero_le _) dzX9_mu_31
set_option maxHeartbeats 4000000 in
set_option maxRecDepth 100000 in
theorem m_mu (Lf : Nat → Bool) (μ0 : Nat → Int32) {i j : Nat} (hi : i < n) (hj : j < n) (hn : n ≤ 14) (hij : i = j ∨ Lf (16 * i + j) = true) : zD K yX9_mu cX9_mu 9 (some .int) (zq 1 0 0 40) [.ref (A 0), .int (nI i), .int (nI j)] [mO A n cc, mZ K (A 1) Lf, mI K (A 5) 16384 μ0] (some (.int ((quH Lf n i μ0 (n + 1)) j))) [mO A n cc, mZ K (A 1) Lf, mI K (A 5) 16384 (quH Lf n i μ0 (n + 1))] := by
  refine zo (by decide) (Nat.le_of_ble_eq_true rfl) fun x C R _ => ?_
  have inner : ∀ h xx, xx < n → (zv_V x (gz K (zq 1 0 0 40) 9 cX9_mu yX9_mu.cls) 158 [(0, .ref (A 0)), (1, .int (nI i)), (2, .int (nI j)), (3, .int (nI h)), (4, .int (nI xx)), (5, .int (nI (quU Lf i xx n))), (6, .int (quS Lf i xx (quX Lf n i h (quH Lf n i μ0 h) xx) n)), (7, .int (nI n))] [] [mO A n cc, mZ K (A 1) Lf, mI K (A 5) 16384 (quX Lf n i h (quH Lf n i μ0 h) xx)] 0 0) → ∀ y, y ≤ n → zv_V x (gz K (zq 1 0 0 40) 9 cX9_mu yX9_mu.cls) 73 [(0, .ref (A 0)), (1, .int (nI i)), (2, .int (nI j)), (3, .int (nI h)), (4, .int (nI xx)), (5, .int (nI (quU Lf i xx y))), (6, .int (quS Lf i xx (quX Lf n i h (quH Lf n i μ0 h) xx) y)), (7, .int (nI y))] [] [mO A n cc, mZ K (A 1) Lf, mI K (A 5) 16384 (quX Lf n i h (quH Lf n i μ0 h) xx)] 0 0 := by
    intro h xx hxx hend
    refine zl n ?_ fun y hy ih => ?_
    · refine zv_go C okX9_mu [158] 20 ?_
      refine ⟨rfl, fun _ => ?_, fun h => absurd (nI_le (Nat.le_refl _) (by omega)) h⟩
      exact hend
    · have ey : (nI y).toNatClampNeg = y := nI_clamp (by omega)
      have yin : vp_in (nI y) 16384 := vp_in_nI (by omega) (by decide)
      have join : ∀ b, b = quB Lf i xx y → zv_V x (gz K (zq 1 0 0 40) 9 cX9_mu yX9_mu.cls) 114 [(0, .ref (A 0)), (1, .int (nI i)), (2, .int (nI j)), (3, .int (nI h)), (4, .int (nI xx)), (5, .int (nI (quU Lf i xx y))), (6, .int (quS Lf i xx (quX Lf n i h (quH Lf n i μ0 h) xx) y)), (7, .int (nI y))] [.int (bI b)] [mO A n cc, mZ K (A 1) Lf, mI K (A 5) 16384 (quX Lf n i h (quH Lf n i μ0 h) xx)] 0 0 := by
        intro b hb
        have eu : (quU Lf i xx (y + 1)) = (quU Lf i xx y) + b.toNat := by rw [quU, ← hb]
        have es : (quS Lf i xx (quX Lf n i h (quH Lf n i μ0 h) xx) (y + 1)) = (quS Lf i xx (quX Lf n i h (quH Lf n i μ0 h) xx) y) + (if b = true then (quX Lf n i h (quH Lf n i μ0 h) xx) y else 0) := by rw [quS, ← hb]
        refine zv_go C okX9_mu [73] 40 ?_
        refine ⟨fun h1 => ⟨fun h2 => ?_, fun h2 => absurd h1 h2⟩, fun h1 => ⟨fun h2 => absurd h2 h1, fun h2 => ⟨rfl, ⟨rfl, rfl⟩, yin, ?_⟩⟩⟩
        · rw [bI_0] at h1
          subst h1
          refine zv_drop C [0, 1, 2, 3, 4, 5, 6, 7] (lv' := [(0, .ref (A 0)), (1, .int (nI i)), (2, .int (nI j)), (3, .int (nI h)), (4, .int (nI xx)), (5, .int (nI (quU Lf i xx (y + 1)))), (6, .int (quS Lf i xx (quX Lf n i h (quH Lf n i μ0 h) xx) (y + 1))), (7, .int (nI (y + 1)))]) ?_ ih
          rw [eu, es, ← nI_1 y, ← nI_add]
          rfl
        · rw [bI_1] at h1
          subst h1
          refine zv_drop C [0, 1, 2, 3, 4, 5, 6, 7] (lv' := [(0, .ref (A 0)), (1, .int (nI i)), (2, .int (nI j)), (3, .int (nI h)), (4, .int (nI xx)), (5, .int (nI (quU Lf i xx (y + 1)))), (6, .int (quS Lf i xx (quX Lf n i h (quH Lf n i μ0 h) xx) (y + 1))), (7, .int (nI (y + 1)))]) ?_ ih
          rw [eu, es, ← nI_1 y, ← nI_add]
          show [_, _, _, _, _, _, (6, Value.int ((quS Lf i xx (quX Lf n i h (quH Lf n i μ0 h) xx) y) + (quX Lf n i h (quH Lf n i μ0 h) xx) (nI y).toNatClampNeg)), _] = _
          rw [ey]
          rfl
      have second : (decide (y = i) || Lf (16 * i + y)) = true → zv_V x (gz K (zq 1 0 0 40) 9 cX9_mu yX9_mu.cls) 98 [(0, .ref (A 0)), (1, .int (nI i)), (2, .int (nI j)), (3, .int (nI h)), (4, .int (nI xx)), (5, .int (nI (quU Lf i xx y))), (6, .int (quS Lf i xx (quX Lf n i h (quH Lf n i μ0 h) xx) y)), (7, .int (nI y))] [] [mO A n cc, mZ K (A 1) Lf, mI K (A 5) 16384 (quX Lf n i h (quH Lf n i μ0 h) xx)] 0 0 := by
        intro ha
        refine zv_go C okX9_mu [] 20 ?_
        refine zv_callV C (m_is K A n cc Lf (a := y) (b := xx) (by omega)) (zw_V inX9_is kX9_46 ⟨by decide, by decide⟩) [0, 1] 0 rfl rfl rfl rfl (fun _ => Nat.le_refl _) rfl rfl (by decide) dzX9_mu_103 (by decide) (by decide) rfl (fun _ _ => ?_)
        refine zv_to C rfl rfl (ws' := [mO A n cc, mZ K (A 1) Lf, mI K (A 5) 16384 (quX Lf n i h (quH Lf n i μ0 h) xx)]) rfl ?_
        refine zv_go C okX9_mu [114] 20 ?_
        refine ⟨fun h2 => ?_, fun h2 => ?_⟩
        · rw [bI_0] at h2
          exact join false (by unfold quB; rw [ha, h2]; rfl)
        · rw [bI_1] at h2
          exact join true (by unfold quB; rw [ha, h2]; rfl)
      refine zv_go C okX9_mu [98] 20 ?_
      refine ⟨rfl, fun h => absurd h (nI_ge (by omega) (by omega)), fun _ => ⟨fun h1 => ?_, fun h1 => ?_⟩⟩
      · rw [nb_inj (by omega) (by omega)] at h1
        exact second (by rw [decide_eq_true h1]; rfl)
      · rw [nb_inj (by omega) (by omega)] at h1
        refine zv_callV C (m_is K A n cc Lf (a := i) (b := y) (by omega)) (zw_V inX9_is kX9_46 ⟨by decide, by decide⟩) [0, 1] 0 rfl rfl rfl rfl (fun _ => Nat.le_refl _) rfl rfl (by decide) dzX9_mu_92 (by decide) (by decide) rfl (fun _ _ => ?_)
        refine zv_to C rfl rfl (ws' := [mO A n cc, mZ K (A 1) Lf, mI K (A 5) 16384 (quX Lf n i h (quH Lf n i μ0 h) xx)]) rfl ?_
        refine zv_go C okX9_mu [98, 114] 20 ?_
        refine ⟨fun h2 => ?_, fun h2 => ?_⟩
        · rw [bI_0] at h2
          exact join false (by unfold quB; rw [decide_eq_false h1, h2]; rfl)
        · rw [bI_1] at h2
          exact second (by rw [h2]; simp)
  have mid : ∀ h, h ≤ n → (zv_V x (gz K (zq 1 0 0 40) 9 cX9_mu yX9_mu.cls) 34 [(0, .ref (A 0)), (1, .int (nI i)), (2, .int (nI j)), (3, .int (nI (h + 1)))] [] [mO A n cc, mZ K (A 1) Lf, mI K (A 5) 16384 (quH Lf n i μ0 (h + 1))] 0 0) → ∀ xx, xx ≤ n → zv_V x (gz K (zq 1 0 0 40) 9 cX9_mu yX9_mu.cls) 45 [(0, .ref (A 0)), (1, .int (nI i)), (2, .int (nI j)), (3, .int (nI h)), (4, .int (nI xx))] [] [mO A n cc, mZ K (A 1) Lf, mI K (A 5) 16384 (quX Lf n i h (quH Lf n i μ0 h) xx)] 0 0 := by
    intro h hh hend
    refine zl n ?_ fun xx hxx ih => ?_
    · refine zv_go C okX9_mu [34] 20 ?_
      refine ⟨rfl, fun _ => ?_, fun h => absurd (nI_le (Nat.le_refl _) (by omega)) h⟩
      refine zv_drop C [0, 1, 2, 3] (lv' := [(0, .ref (A 0)), (1, .int (nI i)), (2, .int (nI j)), (3, .int (nI (h + 1)))]) (by rw [← nI_1 h] <;> rfl) ?_
      exact hend
    · have exx : (nI xx).toNatClampNeg = xx := nI_clamp (by omega)
      have xin : vp_in (nI xx) 16384 := vp_in_nI (by omega) (by decide)
      have hul := quU_le Lf i xx n
      have stay : ((decide (xx = i) || Lf (16 * i + xx)) && decide ((quU Lf i xx n) = h)) = false → zv_V x (gz K (zq 1 0 0 40) 9 cX9_mu yX9_mu.cls) 190 [(0, .ref (A 0)), (1, .int (nI i)), (2, .int (nI j)), (3, .int (nI h)), (4, .int (nI xx)), (5, .int (nI (quU Lf i xx n))), (6, .int (quS Lf i xx (quX Lf n i h (quH Lf n i μ0 h) xx) n)), (7, .int (nI n))] [] [mO A n cc, mZ K (A 1) Lf, mI K (A 5) 16384 (quX Lf n i h (quH Lf n i μ0 h) xx)] 0 0 := by
        intro hno
        refine zv_go C okX9_mu [45] 20 ?_
        refine zv_drop C [0, 1, 2, 3, 4] (lv' := [(0, .ref (A 0)), (1, .int (nI i)), (2, .int (nI j)), (3, .int (nI h)), (4, .int (nI (xx + 1)))]) (by rw [← nI_1 xx] <;> rfl) ?_
        refine zv_to C rfl rfl (ws' := [mO A n cc, mZ K (A 1) Lf, mI K (A 5) 16384 (quX Lf n i h (quH Lf n i μ0 h) (xx + 1))]) (by rw [quX, if_neg (by rw [hno]; simp)]) ih
      have test : (decide (xx = i) || Lf (16 * i + xx)) = true → zv_V x (gz K (zq 1 0 0 40) 9 cX9_mu yX9_mu.cls) 174 [(0, .ref (A 0)), (1, .int (nI i)), (2, .int (nI j)), (3, .int (nI h)), (4, .int (nI xx)), (5, .int (nI (quU Lf i xx n))), (6, .int (quS Lf i xx (quX Lf n i h (quH Lf n i μ0 h) xx) n)), (7, .int (nI n))] [] [mO A n cc, mZ K (A 1) Lf, mI K (A 5) 16384 (quX Lf n i h (quH Lf n i μ0 h) xx)] 0 0 := by
        intro ha
        refine zv_go C okX9_mu [190] 20 ?_
        refine ⟨fun h1 => ?_, fun h1 => ⟨rfl, ⟨rfl, rfl⟩, xin, ?_⟩⟩
        · rw [nb_inj (by omega) (by omega)] at h1
          exact stay (by rw [decide_eq_false h1, Bool.and_false])
        · rw [nb_inj (by omega) (by omega)] at h1
          refine zv_go C okX9_mu [45] 20 ?_
          refine zv_drop C [0, 1, 2, 3, 4] (lv' := [(0, .ref (A 0)), (1, .int (nI i)), (2, .int (nI j)), (3, .int (nI h)), (4, .int (nI (xx + 1)))]) (by rw [← nI_1 xx] <;> rfl) ?_
          refine zv_to C rfl rfl (ws' := [mO A n cc, mZ K (A 1) Lf, mI K (A 5) 16384 (quX Lf n i h (quH Lf n i μ0 h) (xx + 1))]) ?_ ih
          show [_, _, (A 5, Sum.inl (cI K, 16384, Sum.inl (upd (quX Lf n i h (quH Lf n i μ0 h) xx) (nI xx).toNatClampNeg (-(quS Lf i xx (quX Lf n i h (quH Lf n i μ0 h) xx) n)))))] = _
          rw [exx, quX, if_pos (by rw [ha, decide_eq_true h1]; rfl)]
      have aft : zv_V x (gz K (zq 1 0 0 40) 9 cX9_mu yX9_mu.cls) 158 [(0, .ref (A 0)), (1, .int (nI i)), (2, .int (nI j)), (3, .int (nI h)), (4, .int (nI xx)), (5, .int (nI (quU Lf i xx n))), (6, .int (quS Lf i xx (quX Lf n i h (quH Lf n i μ0 h) xx) n)), (7, .int (nI n))] [] [mO A n cc, mZ K (A 1) Lf, mI K (A 5) 16384 (quX Lf n i h (quH Lf n i μ0 h) xx)] 0 0 := by
        refine zv_go C okX9_mu [174] 20 ?_
        refine ⟨fun h1 => ?_, fun h1 => ?_⟩
        · rw [nb_inj (by omega) (by omega)] at h1
          exact test (by rw [decide_eq_true h1]; rfl)
        · rw [nb_inj (by omega) (by omega)] at h1
          refine zv_callV C (m_is K A n cc Lf (a := i) (b := xx) (by omega)) (zw_V inX9_is kX9_46 ⟨by decide, by decide⟩) [0, 1] 0 rfl rfl rfl rfl (fun _ => Nat.le_refl _) rfl rfl (by decide) dzX9_mu_168 (by decide) (by decide) rfl (fun _ _ => ?_)
          refine zv_to C rfl rfl (ws' := [mO A n cc, mZ K (A 1) Lf, mI K (A 5) 16384 (quX Lf n i h (quH Lf n i μ0 h) xx)]) rfl ?_
          refine zv_go C okX9_mu [174, 190] 20 ?_
          refine ⟨fun h2 => ?_, fun h2 => ?_⟩
          · rw [bI_0] at h2
            exact stay (by rw [decide_eq_false h1, h2]; rfl)
          · rw [bI_1] at h2
            exact test (by rw [h2]; simp)
      have es0 : (quS Lf i xx (quX Lf n i h (quH Lf n i μ0 h) xx) 0) = if xx = i then -1 else 0 := rfl
      refine zv_go C okX9_mu [73] 30 ?_
      refine ⟨rfl, fun h => absurd h (nI_ge (by omega) (by omega)), fun _ => ⟨fun h1 => ?_, fun h1 => ?_⟩⟩
      · rw [nb_inj (by omega) (by omega)] at h1
        exact zv_to C (lv' := [(0, .ref (A 0)), (1, .int (nI i)), (2, .int (nI j)), (3, .int (nI h)), (4, .int (nI xx)), (5, .int (nI (quU Lf i xx 0))), (6, .int (quS Lf i xx (quX Lf n i h (quH Lf n i μ0 h) xx) 0)), (7, .int (nI 0))]) (by rw [es0, if_neg h1] <;> rfl) rfl rfl (inner h xx hxx aft 0 (Nat.zero_le _))
      · rw [nb_inj (by omega) (by omega)] at h1
        exact zv_to C (lv' := [(0, .ref (A 0)), (1, .int (nI i)), (2, .int (nI j)), (3, .int (nI h)), (4, .int (nI xx)), (5, .int (nI (quU Lf i xx 0))), (6, .int (quS Lf i xx (quX Lf n i h (quH Lf n i μ0 h) xx) 0)), (7, .int (nI 0))]) (by rw [es0, if_pos h1] <;> rfl) rfl rfl (inner h xx hxx aft 0 (Nat.zero_le _))
  have loop : ∀ h, h ≤ n + 1 → zv_V x (gz K (zq 1 0 0 40) 9 cX9_mu yX9_mu.cls) 34 [(0, .ref (A 0)), (1, .int (nI i)), (2, .int (nI j)), (3, .int (nI h))] [] [mO A n cc, mZ K (A 1) Lf, mI K (A 5) 16384 (quH Lf n i μ0 h)] 0 0 := by
    refine zl (n + 1) ?_ fun h hh ih => ?_
    · refine zv_go C okX9_mu [] 20 ?_
      refine ⟨rfl, fun _ => ⟨rfl, ⟨rfl, rfl⟩, vp_in_nI (by omega) (by decide), ?_⟩, fun h => absurd (nI_lt (by omega) (by omega)) h⟩
      exact zr R () [0, 1, 2] (some (.int _)) _ (by rw [nI_clamp (by omega)]) rfl trivial rfl rfl (Nat.zero_le _) (Nat.zero_le _) dzX9_mu_208
    · refine zv_go C okX9_mu [45] 20 ?_
      refine ⟨rfl, fun h => absurd h (nI_nlt (by omega) (by omega)), fun _ => ?_⟩
      exact mid h (by omega) ih 0 (Nat.zero_le _)
  refine zv_go C okX9_mu [] 20 ?_
  refine zv_callV C (m_has K A n cc (nI i)) (zw_V inX9_has kX9_42 ⟨by decide, by decide⟩) [0] 0 rfl rfl rfl rfl (fun _ => Nat.le_refl _) rfl rfl (by decide) dzX9_mu_2 (by decide) (by decide) rfl (fun _ _ => ?_)
  refine zv_to C rfl rfl (ws' := [mO A n cc, mZ K (A 1) Lf, mI K (A 5) 16384 μ0]) rfl ?_
  refine zv_go C okX9_mu [] 20 ?_
  refine ⟨fun h1 => ?_, fun h1 => ?_⟩
  · rw [bI_0, hasb_nI (by omega) (by omega), decide_eq_false_iff_not] at h1; exact absurd hi h1
  refine zv_callV C (m_has K A n cc (nI j)) (zw_V inX9_has kX9_42 ⟨by decide, by decide⟩) [0] 0 rfl rfl rfl rfl (fun _ => Nat.le_refl _) rfl rfl (by decide) dzX9_mu_10 (by decide) (by decide) rfl (fun _ _ => ?_)
  refine zv_to C rfl rfl (ws' := [mO A n cc, mZ K (A 1) Lf, mI K (A 5) 16384 μ0]) rfl ?_
  refine zv_go C okX9_mu [34] 20 ?_
  refine ⟨fun h1 => ?_, fun h1 => ⟨fun h3 => ?_, fun h3 => ?_⟩⟩
  · rw [bI_0, hasb_nI (by omega) (by omega), decide_eq_false_iff_not] at h1; exact absurd hj h1
  · exact loop 0 (Nat.zero_le _)
  refine zv_callV C (m_is K A n cc Lf (a := i) (b := j) (by omega)) (zw_V inX9_is kX9_46 ⟨by decide, by decide⟩) [0, 1] 0 rfl rfl rfl rfl (fun _ => Nat.le_refl _) rfl rfl (by decide) dzX9_mu_24 (by decide) (by decide) rfl (fun _ _ => ?_)
  refine zv_to C rfl rfl (ws' := [mO A n cc, mZ K (A 1) Lf, mI K (A 5) 16384 μ0]) rfl ?_
  refine zv_go C okX9_mu [34] 20 ?_
  refine ⟨fun h4 => ?_, fun h4 => ?_⟩
  · exact loop 0 (Nat.zero_le _)
  · rw [bI_0] at h4
    rcases hij with e | e
    · exact absurd (by rw [e]) h3
    · rw [h4] at e; cases e
end MH
