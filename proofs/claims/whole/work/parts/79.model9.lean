/-! THE MODEL: write, findChain, chain, apart -/
def wrU (Lf : Nat → Bool) (s v : Nat) : Nat → Nat
  | 0 => 0
  | u + 1 => wrU Lf s v u + (s.testBit u && Lf (16 * u + v)).toNat
theorem wrU_le (Lf : Nat → Bool) (s v : Nat) : ∀ k, wrU Lf s v k ≤ k
  | 0 => Nat.le_refl _
  | k + 1 => by
    have h := wrU_le Lf s v k
    unfold wrU
    cases (s.testBit k && Lf (16 * k + v)) <;> simp <;> omega
def wrV (Lf : Nat → Bool) (n s p : Nat) (σ : (Nat → Int32) × Nat) : Nat → (Nat → Int32) × Nat
  | 0 => σ
  | v + 1 => if (s.testBit v && decide (wrU Lf s v n = p)) = true then (upd (wrV Lf n s p σ v).1 (wrV Lf n s p σ v).2 (nI v), (wrV Lf n s p σ v).2 + 1) else wrV Lf n s p σ v
def wrR (Lf : Nat → Bool) (n s : Nat) (w : Nat → Int32) : Nat → (Nat → Int32) × Nat
  | 0 => (w, 0)
  | p + 1 => wrV Lf n s p (wrR Lf n s w p) n
/-- how many of the set below k have less than p under them; just p -/
def wcA (Lf : Nat → Bool) (n s p : Nat) : Nat → Nat
  | 0 => 0
  | v + 1 => wcA Lf n s p v + (s.testBit v && decide (wrU Lf s v n < p)).toNat
def wcB (Lf : Nat → Bool) (n s p : Nat) : Nat → Nat
  | 0 => 0
  | v + 1 => wcB Lf n s p v + (s.testBit v && decide (wrU Lf s v n = p)).toNat
theorem wcA_s (Lf : Nat → Bool) (n s p : Nat) : ∀ k, wcA Lf n s (p + 1) k = wcA Lf n s p k + wcB Lf n s p k
  | 0 => rfl
  | k + 1 => by
    have h := wcA_s Lf n s p k
    unfold wcA wcB
    rw [h]
    cases s.testBit k with
    | false => simp
    | true =>
      by_cases h1 : wrU Lf s k n < p
      · have h2 : ¬ wrU Lf s k n = p := by omega
        have h3 : wrU Lf s k n < p + 1 := by omega
        simp [h1, h2, h3]; omega
      · by_cases h2 : wrU Lf s k n = p
        · have h3 : wrU Lf s k n < p + 1 := by omega
          simp [h1, h2]; omega
        · have h3 : ¬ wrU Lf s k n < p + 1 := by omega
          simp [h1, h2, h3]
theorem wcA_0 (Lf : Nat → Bool) (n s : Nat) : ∀ k, wcA Lf n s 0 k = 0
  | 0 => rfl
  | k + 1 => by
    unfold wcA
    rw [wcA_0 Lf n s k]
    simp
theorem wcA_le (Lf : Nat → Bool) (n s p : Nat) : ∀ k d, wcA Lf n s p (k + d) ≤ wcA Lf n s p k + d
  | k, 0 => Nat.le_refl _
  | k, d + 1 => by
    have h := wcA_le Lf n s p k d
    show wcA Lf n s p (k + d) + _ ≤ _
    cases (s.testBit (k + d) && decide (wrU Lf s (k + d) n < p)) <;> simp <;> omega
theorem wcAB (Lf : Nat → Bool) (n s p : Nat) : ∀ k, wcA Lf n s p k + wcB Lf n s p k ≤ k
  | 0 => Nat.le_refl _
  | k + 1 => by
    have h := wcAB Lf n s p k
    unfold wcA wcB
    cases s.testBit k with
    | false => simp; omega
    | true =>
      by_cases h1 : wrU Lf s k n < p
      · have h2 : ¬ wrU Lf s k n = p := by omega
        simp [h1, h2]; omega
      · by_cases h2 : wrU Lf s k n = p
        · simp [h2]; omega
        · simp [h1, h2]; omega
theorem wrV_n (Lf : Nat → Bool) (n s p : Nat) (σ : (Nat → Int32) × Nat) : ∀ v, (wrV Lf n s p σ v).2 = σ.2 + wcB Lf n s p v
  | 0 => rfl
  | v + 1 => by
    have h := wrV_n Lf n s p σ v
    unfold wrV wcB
    split
    · rename_i h2
      rw [h2]
      show (wrV Lf n s p σ v).2 + 1 = _
      rw [h]
      rfl
    · rename_i h2
      rw [Bool.eq_false_iff.mpr h2, h]
      rfl
theorem wrR_n (Lf : Nat → Bool) (n s : Nat) (w : Nat → Int32) : ∀ p, (wrR Lf n s w p).2 = wcA Lf n s p n
  | 0 => (wcA_0 Lf n s n).symm
  | p + 1 => by
    rw [wrR, wrV_n, wrR_n Lf n s w p, wcA_s]
theorem wr_le (Lf : Nat → Bool) (n s p v : Nat) (hv : v ≤ n) : wcA Lf n s p n + wcB Lf n s p v ≤ n := by
  have h1 := wcA_le Lf n s p v (n - v)
  have h2 := wcAB Lf n s p v
  rw [Nat.add_sub_cancel' hv] at h1
  omega
theorem wrR_le (Lf : Nat → Bool) (n s : Nat) (w : Nat → Int32) (p : Nat) : (wrR Lf n s w p).2 ≤ n := by
  have h := wr_le Lf n s p 0 (Nat.zero_le _)
  rw [wrR_n]
  exact Nat.le_trans (Nat.le_add_right _ _) h
/-- the run along two rows as far as they agree -/
def msF (l b : Nat → Int32) : Nat → Nat → Nat
  | 0, i => i
  | m + 1, i => if l i = b i then msF l b m (i + 1) else i
theorem msF_le (l b : Nat → Int32) : ∀ m i, msF l b m i ≤ i + m
  | 0, i => Nat.le_refl _
  | m + 1, i => by
    unfold msF
    split
    · have := msF_le l b m (i + 1); omega
    · omega
def lexB (l b : Nat → Int32) (k : Nat) : Bool := decide (msF l b k 0 < k) && decide (l (msF l b k 0) < b (msF l b k 0))
def cpS (l b : Nat → Int32) (k : Nat) : Nat → Int32 := fun j => if j < k then l j else b j
abbrev zhS : Type := Nat × (Nat → Int32) × (Nat → Int32)
def zhN (Lf : Nat → Bool) (n s : Nat) (σ : zhS) : zhS :=
  if σ.1 ≤ npc 31 s ∧ allB (fun a => allB (pisChain Lf s a) a) n = true then
    (if (decide (σ.1 < (wrR Lf n s σ.2.1 n).2) || lexB (wrR Lf n s σ.2.1 n).1 σ.2.2 (wrR Lf n s σ.2.1 n).2) = true then ⟨(wrR Lf n s σ.2.1 n).2, (wrR Lf n s σ.2.1 n).1, cpS (wrR Lf n s σ.2.1 n).1 σ.2.2 (wrR Lf n s σ.2.1 n).2⟩ else ⟨σ.1, (wrR Lf n s σ.2.1 n).1, σ.2.2⟩)
  else σ
def zhF (Lf : Nat → Bool) (n : Nat) (l b : Nat → Int32) : Nat → zhS
  | 0 => ⟨0, l, b⟩
  | k + 1 => zhN Lf n (k + 1) (zhF Lf n l b k)
theorem zhF_le (Lf : Nat → Bool) (n : Nat) (l b : Nat → Int32) : ∀ k, (zhF Lf n l b k).1 ≤ n
  | 0 => Nat.zero_le _
  | k + 1 => by
    have h := zhF_le Lf n l b k
    unfold zhF zhN
    split
    · split
      · exact wrR_le _ _ _ _ _
      · exact h
    · exact h
section MW
variable (K : zK) (A : Nat → Nat) (n : Nat) (cc : Int32) (Lf : Nat → Bool)
set_option maxHeartbeats 4000000 in
set_option maxRecDepth 100000 in
theorem m_write {s r : Nat} (w0 : Nat → Int32) (hs : s < 2 ^ 14) (hn : n ≤ 14) : zD K yX9_write cX9_write 8 (some .int) (zq 1 0 0 40) [.ref (A 0), .int (nI s), .ref r] [mO A n cc, mZ K (A 1) Lf, mI K r 14 w0] (some (.int (nI (wrR Lf n s w0 n).2))) [mO A n cc, mZ K (A 1) Lf, mI K r 14 (wrR Lf n s w0 n).1] := by
  refine zo (by decide) (Nat.le_of_ble_eq_true rfl) fun x C R _ => ?_
  have inner : ∀ (w : Nat → Int32) k p v, v < n → (zv_V x (gz K (zq 1 0 0 40) 8 cX9_write yX9_write.cls) 77 [(0, .ref (A 0)), (1, .int (nI s)), (2, .ref r), (3, .int (nI k)), (4, .int (nI p)), (5, .int (nI v)), (6, .int (nI (wrU Lf s v n))), (7, .int (nI n))] [] [mO A n cc, mZ K (A 1) Lf, mI K r 14 w] 0 0) → ∀ u, u ≤ n → zv_V x (gz K (zq 1 0 0 40) 8 cX9_write yX9_write.cls) 32 [(0, .ref (A 0)), (1, .int (nI s)), (2, .ref r), (3, .int (nI k)), (4, .int (nI p)), (5, .int (nI v)), (6, .int (nI (wrU Lf s v u))), (7, .int (nI u))] [] [mO A n cc, mZ K (A 1) Lf, mI K r 14 w] 0 0 := by
    intro w k p v hv hend
    refine zl n ?_ fun u hu ih => ?_
    · refine zv_go C okX9_write [77] 20 ?_
      refine ⟨rfl, fun _ => ?_, fun h => absurd (nI_le (Nat.le_refl _) (by omega)) h⟩
      exact hend
    · have join : ∀ b, b = (s.testBit u && Lf (16 * u + v)) → zv_V x (gz K (zq 1 0 0 40) 8 cX9_write yX9_write.cls) 68 [(0, .ref (A 0)), (1, .int (nI s)), (2, .ref r), (3, .int (nI k)), (4, .int (nI p)), (5, .int (nI v)), (6, .int (nI (wrU Lf s v u))), (7, .int (nI u))] [.int (bI b), .int (nI (wrU Lf s v u))] [mO A n cc, mZ K (A 1) Lf, mI K r 14 w] 0 0 := by
        intro b hb
        refine zv_go C okX9_write [32] 20 ?_
        refine zv_to C (lv' := [(0, .ref (A 0)), (1, .int (nI s)), (2, .ref r), (3, .int (nI k)), (4, .int (nI p)), (5, .int (nI v)), (6, .int (nI (wrU Lf s v (u + 1)))), (7, .int (nI (u + 1)))]) ?_ rfl rfl ih
        rw [wrU, ← hb, ← nI_add, ← nI_1 u]
        cases b <;> rfl
      refine zv_go C okX9_write [] 20 ?_
      refine ⟨rfl, fun h => absurd h (nI_ge (by omega) (by omega)), fun _ => ?_⟩
      refine zv_callS C (m_isIn K (s := s) (v := u) (by omega) (by omega)) (zw_S inX9_isIn kX9_58 ⟨by decide, by decide⟩) [] rfl rfl (fun _ => Nat.le_refl _) (rest := [.int (nI (wrU Lf s v u))]) rfl rfl (Nat.le_of_ble_eq_true rfl) dzX9_write_46 (by decide) (by decide) rfl (fun _ _ => ?_)
      refine zv_to C rfl rfl (ws' := [mO A n cc, mZ K (A 1) Lf, mI K r 14 w]) rfl ?_
      refine zv_go C okX9_write [68] 20 ?_
      refine ⟨fun h1 => ?_, fun h1 => ?_⟩
      · rw [bI_0] at h1
        exact join false (by rw [h1]; rfl)
      · rw [bI_1] at h1
        refine zv_callV C (m_is K A n cc Lf (a := u) (b := v) (by omega)) (zw_V inX9_is kX9_46 ⟨by decide, by decide⟩) [0, 1] 0 rfl rfl rfl rfl (fun _ => Nat.le_refl _) (rest := [.int (nI (wrU Lf s v u))]) rfl rfl (Nat.le_of_ble_eq_true rfl) dzX9_write_57 (by decide) (by decide) rfl (fun _ _ => ?_)
        refine zv_to C rfl rfl (ws' := [mO A n cc, mZ K (A 1) Lf, mI K r 14 w]) rfl ?_
        refine zv_go C okX9_write [68] 20 ?_
        refine ⟨fun h2 => ?_, fun h2 => ?_⟩
        · rw [bI_0] at h2
          exact join false (by rw [h2]; simp)
        · rw [bI_1] at h2
          exact join true (by rw [h1, h2]; rfl)
  have mid : ∀ p, p < n → (zv_V x (gz K (zq 1 0 0 40) 8 cX9_write yX9_write.cls) 5 [(0, .ref (A 0)), (1, .int (nI s)), (2, .ref r), (3, .int (nI (wrR Lf n s w0 (p + 1)).2)), (4, .int (nI (p + 1)))] [] [mO A n cc, mZ K (A 1) Lf, mI K r 14 (wrR Lf n s w0 (p + 1)).1] 0 0) → ∀ v, v ≤ n → zv_V x (gz K (zq 1 0 0 40) 8 cX9_write yX9_write.cls) 17 [(0, .ref (A 0)), (1, .int (nI s)), (2, .ref r), (3, .int (nI (wrV Lf n s p (wrR Lf n s w0 p) v).2)), (4, .int (nI p)), (5, .int (nI v))] [] [mO A n cc, mZ K (A 1) Lf, mI K r 14 (wrV Lf n s p (wrR Lf n s w0 p) v).1] 0 0 := by
    intro p hp hend
    refine zl n ?_ fun v hv ih => ?_
    · refine zv_go C okX9_write [5] 20 ?_
      refine ⟨rfl, fun _ => ?_, fun h => absurd (nI_le (Nat.le_refl _) (by omega)) h⟩
      refine zv_drop C [0, 1, 2, 3, 4] (lv' := [(0, .ref (A 0)), (1, .int (nI s)), (2, .ref r), (3, .int (nI (wrR Lf n s w0 (p + 1)).2)), (4, .int (nI (p + 1)))]) (by rw [← nI_1 p] <;> rfl) ?_
      exact hend
    · have hcnt := wr_le Lf n s p (v + 1) hv
      have hk : (wrV Lf n s p (wrR Lf n s w0 p) v).2 = wcA Lf n s p n + wcB Lf n s p v := by rw [wrV_n, wrR_n]
      have hul := wrU_le Lf s v n
      generalize hτ : wrV Lf n s p (wrR Lf n s w0 p) v = τ at hk ⊢
      have stay : (s.testBit v && decide (wrU Lf s v n = p)) = false → zv_V x (gz K (zq 1 0 0 40) 8 cX9_write yX9_write.cls) 101 [(0, .ref (A 0)), (1, .int (nI s)), (2, .ref r), (3, .int (nI τ.2)), (4, .int (nI p)), (5, .int (nI v)), (6, .int (nI (wrU Lf s v n))), (7, .int (nI n))] [] [mO A n cc, mZ K (A 1) Lf, mI K r 14 τ.1] 0 0 := by
        intro hno
        have e : wrV Lf n s p (wrR Lf n s w0 p) (v + 1) = τ := by rw [wrV, if_neg (by rw [hno]; simp), hτ]
        rw [e] at ih
        refine zv_go C okX9_write [17] 20 ?_
        refine zv_drop C [0, 1, 2, 3, 4, 5] (lv' := [(0, .ref (A 0)), (1, .int (nI s)), (2, .ref r), (3, .int (nI τ.2)), (4, .int (nI p)), (5, .int (nI (v + 1)))]) (by rw [← nI_1 v] <;> rfl) ?_
        exact ih
      refine zv_go C okX9_write [32] 20 ?_
      refine ⟨rfl, fun h => absurd h (nI_ge (by omega) (by omega)), fun _ => ?_⟩
      refine inner τ.1 τ.2 p v hv ?_ 0 (Nat.zero_le _)
      refine zv_go C okX9_write [] 20 ?_
      refine zv_callS C (m_isIn K (s := s) (v := v) (by omega) (by omega)) (zw_S inX9_isIn kX9_58 ⟨by decide, by decide⟩) [] rfl rfl (fun _ => Nat.le_refl _) rfl rfl (by decide) dzX9_write_80 (by decide) (by decide) rfl (fun _ _ => ?_)
      refine zv_to C rfl rfl (ws' := [mO A n cc, mZ K (A 1) Lf, mI K r 14 τ.1]) rfl ?_
      refine zv_go C okX9_write [101] 20 ?_
      refine ⟨fun h1 => ?_, fun h1 => ⟨fun h2 => ?_, fun h2 => ?_⟩⟩
      · rw [bI_0] at h1
        exact stay (by rw [h1]; rfl)
      · rw [nb_inj (by omega) (by omega)] at h2
        exact stay (by rw [decide_eq_false h2, Bool.and_false])
      · rw [bI_1] at h1
        rw [nb_inj (by omega) (by omega)] at h2
        have hyes : (s.testBit v && decide (wrU Lf s v n = p)) = true := by rw [h1, decide_eq_true h2]; rfl
        rw [wcB, hyes] at hcnt
        have hcnt : wcA Lf n s p n + (wcB Lf n s p v + 1) ≤ n := hcnt
        have e : wrV Lf n s p (wrR Lf n s w0 p) (v + 1) = (upd τ.1 τ.2 (nI v), τ.2 + 1) := by rw [wrV, if_pos hyes, hτ]
        rw [e] at ih
        refine ⟨⟨rfl, rfl⟩, vp_in_nI (by omega) (by decide), ?_⟩
        refine zv_go C okX9_write [17] 20 ?_
        refine zv_drop C [0, 1, 2, 3, 4, 5] (lv' := [(0, .ref (A 0)), (1, .int (nI s)), (2, .ref r), (3, .int (nI (τ.2 + 1))), (4, .int (nI p)), (5, .int (nI (v + 1)))]) (by rw [← nI_1 v, ← nI_1 τ.2] <;> rfl) ?_
        refine zv_to C rfl rfl (ws' := [mO A n cc, mZ K (A 1) Lf, mI K r 14 (upd τ.1 τ.2 (nI v))]) ?_ ih
        show [_, _, (r, Sum.inl (cI K, 14, Sum.inl (upd τ.1 (nI τ.2).toNatClampNeg (nI v))))] = _
        rw [nI_clamp (by omega)]
  have loop : ∀ p, p ≤ n → zv_V x (gz K (zq 1 0 0 40) 8 cX9_write yX9_write.cls) 5 [(0, .ref (A 0)), (1, .int (nI s)), (2, .ref r), (3, .int (nI (wrR Lf n s w0 p).2)), (4, .int (nI p))] [] [mO A n cc, mZ K (A 1) Lf, mI K r 14 (wrR Lf n s w0 p).1] 0 0 := by
    refine zl n ?_ fun p hp ih => ?_
    · refine zv_go C okX9_write [] 20 ?_
      refine ⟨rfl, fun _ => ?_, fun h => absurd (nI_le (Nat.le_refl _) (by omega)) h⟩
      exact zr R () [0, 1, 2] (some (.int _)) _ rfl rfl trivial rfl rfl (Nat.zero_le _) (Nat.zero_le _) dzX9_write_114
    · refine zv_go C okX9_write [17] 20 ?_
      refine ⟨rfl, fun h => absurd h (nI_ge (by omega) (by omega)), fun _ => ?_⟩
      exact mid p hp ih 0 (Nat.zero_le _)
  refine zv_go C okX9_write [5] 20 ?_
  exact loop 0 (Nat.zero_le _)
set_option maxHeartbeats 4000000 in
set_option maxRecDepth 100000 in
theorem m_findChain (l0 b0 : Nat → Int32) (hn : n ≤ 14) : zD K yX9_findChain cX9_findChain 7 (some .int) (zq 2 0 0 80) [.ref (A 0)] [mO A n cc, mZ K (A 1) Lf, mI K (A 7) 14 l0, mI K (A 8) 14 b0] (some (.int (nI (zhF Lf n l0 b0 (2 ^ n - 1)).1))) [mO A n cc, mZ K (A 1) Lf, mI K (A 7) 14 (zhF Lf n l0 b0 (2 ^ n - 1)).2.1, mI K (A 8) 14 (zhF Lf n l0 b0 (2 ^ n - 1)).2.2] := by
  refine zo (by decide) (Nat.le_of_ble_eq_true rfl) fun x C R _ => ?_
  have hp : 0 < 2 ^ n := Nat.two_pow_pos n
  have hp14 := pow_le14 hn
  have copy : ∀ (ln s k at' : Nat) (ff : Bool) (l b : Nat → Int32), k ≤ n → (∀ lv2 : zv_L, (lv2 = [] ∨ ∃ z w q y, lv2 = [(3, .int z), (4, .int w), (5, .int q)] ∨ lv2 = [(3, .int z), (4, .int w), (5, .int q), (6, .int y)]) → zv_V x (gz K (zq 2 0 0 80) 7 cX9_findChain yX9_findChain.cls) 146 ([(0, .ref (A 0)), (1, .int (nI k)), (2, .int (nI s))] ++ lv2) [] [mO A n cc, mZ K (A 1) Lf, mI K (A 7) 14 l, mI K (A 8) 14 (cpS l b k)] 0 0) → ∀ i, i ≤ k → zv_V x (gz K (zq 2 0 0 80) 7 cX9_findChain yX9_findChain.cls) 118 [(0, .ref (A 0)), (1, .int (nI ln)), (2, .int (nI s)), (3, .int (nI k)), (4, .int (bI ff)), (5, .int (nI at')), (6, .int (nI i))] [] [mO A n cc, mZ K (A 1) Lf, mI K (A 7) 14 l, mI K (A 8) 14 (cpS l b i)] 0 0 := by
    intro ln s k at' ff l b hk hend
    refine zl k ?_ fun i hi ih => ?_
    · refine zv_go C okX9_findChain [146] 20 ?_
      refine ⟨fun _ => ?_, fun h => absurd (nI_le (Nat.le_refl _) (by omega)) h⟩
      exact hend [_, _, _, _] (Or.inr ⟨_, _, _, _, Or.inr rfl⟩)
    · have ei : (nI i).toNatClampNeg = i := nI_clamp (by omega)
      have iin : vp_in (nI i) 14 := vp_in_nI (by omega) (by decide)
      refine zv_go C okX9_findChain [118] 20 ?_
      refine ⟨fun h => absurd h (nI_ge (by omega) (by omega)), fun _ => ⟨rfl, rfl, ⟨rfl, rfl⟩, iin, ⟨rfl, rfl⟩, iin, ?_⟩⟩
      refine zv_to C (lv' := [(0, .ref (A 0)), (1, .int (nI ln)), (2, .int (nI s)), (3, .int (nI k)), (4, .int (bI ff)), (5, .int (nI at')), (6, .int (nI (i + 1)))]) (by rw [← nI_1 i] <;> rfl) rfl (ws' := [mO A n cc, mZ K (A 1) Lf, mI K (A 7) 14 l, mI K (A 8) 14 (cpS l b (i + 1))]) ?_ ih
      show [_, _, _, (A 8, Sum.inl (cI K, 14, Sum.inl (upd (cpS l b i) (nI i).toNatClampNeg (l (nI i).toNatClampNeg))))] = _
      rw [ei]
      have e : upd (cpS l b i) i (l i) = cpS l b (i + 1) := by
        funext j
        unfold cpS
        by_cases hj : j = i
        · rw [hj, pk_us, if_pos (by omega)]
        · rw [pk_un hj]
          by_cases h2 : j < i
          · rw [if_pos h2, if_pos (by omega)]
          · rw [if_neg h2, if_neg (by omega)]
      rw [e]
  have along : ∀ (ln s k : Nat) (l b : Nat → Int32), k ≤ n → (∀ i, i = msF l b k 0 → zv_V x (gz K (zq 2 0 0 80) 7 cX9_findChain yX9_findChain.cls) 87 [(0, .ref (A 0)), (1, .int (nI ln)), (2, .int (nI s)), (3, .int (nI k)), (4, .int (bI false)), (5, .int (nI i))] [] [mO A n cc, mZ K (A 1) Lf, mI K (A 7) 14 l, mI K (A 8) 14 b] 0 0) → ∀ d i, i + d = k → msF l b d i = msF l b k 0 → zv_V x (gz K (zq 2 0 0 80) 7 cX9_findChain yX9_findChain.cls) 53 [(0, .ref (A 0)), (1, .int (nI ln)), (2, .int (nI s)), (3, .int (nI k)), (4, .int (bI false)), (5, .int (nI i))] [] [mO A n cc, mZ K (A 1) Lf, mI K (A 7) 14 l, mI K (A 8) 14 b] 0 0 := by
    intro ln s k l b hk hend d
    induction d with
    | zero =>
      intro i hi he
      refine zv_go C okX9_findChain [87] 20 ?_
      refine ⟨fun h => absurd rfl h, fun _ => ⟨fun _ => ?_, fun h => absurd (nI_le (by omega) (by omega)) h⟩⟩
      exact hend i he
    | succ d ih =>
      intro i hi he
      have ei : (nI i).toNatClampNeg = i := nI_clamp (by omega)
      have iin : vp_in (nI i) 14 := vp_in_nI (by omega) (by decide)
      refine zv_go C okX9_findChain [87, 53] 20 ?_
      refine ⟨fun h => absurd rfl h, fun _ => ⟨fun h => absurd h (nI_ge (by omega) (by omega)), fun _ => ⟨rfl, ⟨rfl, rfl⟩, iin, rfl, ⟨rfl, rfl⟩, iin, fun h => ?_, fun h => ?_⟩⟩⟩
      · have h : ¬ l (nI i).toNatClampNeg = b (nI i).toNatClampNeg := h
        rw [ei] at h
        rw [msF, if_neg h] at he
        exact hend i he
      · have h : l (nI i).toNatClampNeg = b (nI i).toNatClampNeg := h
        rw [ei] at h
        rw [msF, if_pos h] at he
        exact zv_to C (lv' := [(0, .ref (A 0)), (1, .int (nI ln)), (2, .int (nI s)), (3, .int (nI k)), (4, .int (bI false)), (5, .int (nI (i + 1)))]) (by rw [← nI_1 i] <;> rfl) rfl rfl (ih (i + 1) (by omega) he)
  have outer : ∀ k, k ≤ 2 ^ n - 1 → zv_V x (gz K (zq 2 0 0 80) 7 cX9_findChain yX9_findChain.cls) 4 [(0, .ref (A 0)), (1, .int (nI (zhF Lf n l0 b0 k).1)), (2, .int (nI (k + 1)))] [] [mO A n cc, mZ K (A 1) Lf, mI K (A 7) 14 (zhF Lf n l0 b0 k).2.1, mI K (A 8) 14 (zhF Lf n l0 b0 k).2.2] 0 0 := by
    refine zl (2 ^ n - 1) ?_ fun k hk ih => ?_
    · refine zv_go C okX9_findChain [] 20 ?_
      refine zv_callV C (m_all K A n cc hn) (zw_V inX9_all kX9_61 ⟨by decide, by decide⟩) [0] 0 rfl rfl rfl rfl (fun _ => Nat.le_refl _) (rest := [.int (nI (2 ^ n - 1 + 1))]) rfl rfl (Nat.le_of_ble_eq_true rfl) dzX9_findChain_6 (by decide) (by decide) rfl (fun _ _ => ?_)
      refine zv_to C rfl rfl (ws' := [mO A n cc, mZ K (A 1) Lf, mI K (A 7) 14 (zhF Lf n l0 b0 (2 ^ n - 1)).2.1, mI K (A 8) 14 (zhF Lf n l0 b0 (2 ^ n - 1)).2.2]) rfl ?_
      refine zv_go C okX9_findChain [] 20 ?_
      refine ⟨fun _ => ?_, fun h => absurd (nI_lt (by omega) (by omega)) h⟩
      exact zr R () [0, 1, 2, 3] (some (.int _)) _ rfl rfl trivial rfl rfl (Nat.zero_le _) (Nat.zero_le _) dzX9_findChain_153
    · have hlen := zhF_le Lf n l0 b0 k
      have enx : (zhF Lf n l0 b0 (k + 1)) = zhN Lf n (k + 1) (zhF Lf n l0 b0 k) := rfl
      rw [enx] at ih
      generalize (zhF Lf n l0 b0 k) = σ at hlen ih ⊢
      have hpc := npc_le 31 (k + 1)
      have back : ∀ τ : zhS, τ = zhN Lf n (k + 1) σ → ∀ lv2 : zv_L, (lv2 = [] ∨ ∃ z w q y, lv2 = [(3, .int z), (4, .int w), (5, .int q)] ∨ lv2 = [(3, .int z), (4, .int w), (5, .int q), (6, .int y)]) → zv_V x (gz K (zq 2 0 0 80) 7 cX9_findChain yX9_findChain.cls) 146 ([(0, .ref (A 0)), (1, .int (nI τ.1)), (2, .int (nI (k + 1)))] ++ lv2) [] [mO A n cc, mZ K (A 1) Lf, mI K (A 7) 14 τ.2.1, mI K (A 8) 14 τ.2.2] 0 0 := by
        intro τ hτ lv2 hl2
        rw [← hτ] at ih
        refine zv_drop C [0, 1, 2] (lv' := [(0, .ref (A 0)), (1, .int (nI τ.1)), (2, .int (nI (k + 1)))]) (by rcases hl2 with rfl | ⟨z, w, q, y, rfl | rfl⟩ <;> rfl) ?_
        refine zv_go C okX9_findChain [4] 20 ?_
        exact zv_to C (lv' := [(0, .ref (A 0)), (1, .int (nI τ.1)), (2, .int (nI (k + 1 + 1)))]) (by rw [← nI_1 (k + 1)] <;> rfl) rfl rfl ih
      refine zv_go C okX9_findChain [] 20 ?_
      refine zv_callV C (m_all K A n cc hn) (zw_V inX9_all kX9_61 ⟨by decide, by decide⟩) [0] 0 rfl rfl rfl rfl (fun _ => Nat.le_refl _) (rest := [.int (nI (k + 1))]) rfl rfl (Nat.le_of_ble_eq_true rfl) dzX9_findChain_6 (by decide) (by decide) rfl (fun _ _ => ?_)
      refine zv_to C rfl rfl (ws' := [mO A n cc, mZ K (A 1) Lf, mI K (A 7) 14 σ.2.1, mI K (A 8) 14 σ.2.2]) rfl ?_
      refine zv_go C okX9_findChain [] 20 ?_
      refine ⟨fun h => absurd h (nI_nlt (by omega) (by omega)), fun _ => ?_⟩
      refine zv_callS C (m_size K (s := k + 1) (by omega)) (zw_S inX9_size kX9_64 ⟨by decide, by decide⟩) [] rfl rfl (fun _ => Nat.le_refl _) rfl rfl (by decide) dzX9_findChain_13 (by decide) (by decide) rfl (fun _ _ => ?_)
      refine zv_to C rfl rfl (ws' := [mO A n cc, mZ K (A 1) Lf, mI K (A 7) 14 σ.2.1, mI K (A 8) 14 σ.2.2]) rfl ?_
      refine zv_go C okX9_findChain [146] 20 ?_
      refine ⟨fun h => ?_, fun h => ?_⟩
      · rw [nI_ltI (by omega) (by omega)] at h
        exact back σ (by unfold zhN; rw [if_neg (fun q => by omega)]) [] (Or.inl rfl)
      rw [nI_ltI (by omega) (by omega)] at h
      refine zv_callV C (m_isChain K A n cc Lf (s := k + 1) (by omega) hn) (zw_V inX9_isChain kX9_68 ⟨by decide, by decide⟩) [0, 1] 0 rfl rfl rfl rfl (fun _ => Nat.le_refl _) rfl rfl (by decide) dzX9_findChain_22 (by decide) (by decide) rfl (fun _ _ => ?_)
      refine zv_to C rfl rfl (ws' := [mO A n cc, mZ K (A 1) Lf, mI K (A 7) 14 σ.2.1, mI K (A 8) 14 σ.2.2]) rfl ?_
      refine zv_go C okX9_findChain [146] 20 ?_
      refine ⟨fun h2 => ?_, fun h2 => ⟨rfl, ?_⟩⟩
      · rw [bI_0] at h2
        exact back σ (by unfold zhN; rw [if_neg (fun q => by rw [h2] at q; cases q.2)]) [] (Or.inl rfl)
      rw [bI_1] at h2
      refine zv_callV C (m_write K A n cc Lf (s := k + 1) (r := A 7) σ.2.1 (by omega) hn) (zw_V inX9_write kX9_71 ⟨by decide, by decide⟩) [0, 1, 2] 0 rfl rfl rfl rfl (fun _ => Nat.le_refl _) rfl rfl (by decide) dzX9_findChain_34 (by decide) (by decide) rfl (fun _ _ => ?_)
      refine zv_to C rfl rfl (ws' := [mO A n cc, mZ K (A 1) Lf, mI K (A 7) 14 (wrR Lf n (k + 1) σ.2.1 n).1, mI K (A 8) 14 σ.2.2]) rfl ?_
      have hwl := wrR_le Lf n (k + 1) σ.2.1 n
      have hch : zhN Lf n (k + 1) σ = (if (decide (σ.1 < (wrR Lf n (k + 1) σ.2.1 n).2) || lexB (wrR Lf n (k + 1) σ.2.1 n).1 σ.2.2 (wrR Lf n (k + 1) σ.2.1 n).2) = true then ⟨(wrR Lf n (k + 1) σ.2.1 n).2, (wrR Lf n (k + 1) σ.2.1 n).1, cpS (wrR Lf n (k + 1) σ.2.1 n).1 σ.2.2 (wrR Lf n (k + 1) σ.2.1 n).2⟩ else ⟨σ.1, (wrR Lf n (k + 1) σ.2.1 n).1, σ.2.2⟩) := by
        unfold zhN
        rw [if_pos ⟨by omega, h2⟩]
      generalize wrR Lf n (k + 1) σ.2.1 n = w at hwl hch ⊢
      have cp : ∀ (i : Nat) (ff : Bool), (decide (σ.1 < w.2) || lexB w.1 σ.2.2 w.2) = true → zv_V x (gz K (zq 2 0 0 80) 7 cX9_findChain yX9_findChain.cls) 115 [(0, .ref (A 0)), (1, .int (nI σ.1)), (2, .int (nI (k + 1))), (3, .int (nI w.2)), (4, .int (bI ff)), (5, .int (nI i))] [] [mO A n cc, mZ K (A 1) Lf, mI K (A 7) 14 w.1, mI K (A 8) 14 σ.2.2] 0 0 := by
        intro i ff hyes
        rw [if_pos hyes] at hch
        refine zv_go C okX9_findChain [118] 20 ?_
        refine zv_to C rfl rfl (ws' := [mO A n cc, mZ K (A 1) Lf, mI K (A 7) 14 w.1, mI K (A 8) 14 (cpS w.1 σ.2.2 0)]) ?_ (copy σ.1 (k + 1) w.2 i ff w.1 σ.2.2 hwl ?_ 0 (Nat.zero_le _))
        · have e : cpS w.1 σ.2.2 0 = σ.2.2 := by
            funext j
            exact if_neg (Nat.not_lt_zero _)
          rw [e]
        · exact back ⟨w.2, w.1, cpS w.1 σ.2.2 w.2⟩ hch.symm
      refine zv_go C okX9_findChain [53] 20 ?_
      refine ⟨fun h3 => ?_, fun h3 => ?_⟩
      · have h3 : ¬ σ.1 < w.2 := fun z => by rw [nI_leI (by omega) (by omega)] at h3; omega
        have hms := msF_le w.1 σ.2.2 w.2 0
        refine along σ.1 (k + 1) w.2 w.1 σ.2.2 hwl ?_ w.2 0 (by omega) rfl
        intro i hi
        have ei : (nI i).toNatClampNeg = i := nI_clamp (by omega)
        refine zv_go C okX9_findChain [115, 146] 20 ?_
        refine ⟨fun h => absurd rfl h, fun _ => ⟨fun h4 => ?_, fun h4 => ⟨rfl, ⟨rfl, rfl⟩, ?_, rfl, ⟨rfl, rfl⟩, ?_, fun h5 => ?_, fun h5 => ?_⟩⟩⟩
        · rw [nI_leI (by omega) (by omega)] at h4
          rw [if_neg (by rw [decide_eq_false h3]; unfold lexB; rw [decide_eq_false (by omega)]; simp)] at hch
          exact back ⟨σ.1, w.1, σ.2.2⟩ hch.symm [_, _, _] (Or.inr ⟨_, _, _, 0, Or.inl rfl⟩)
        · rw [nI_leI (by omega) (by omega)] at h4
          exact vp_in_nI (by omega) (by decide)
        · rw [nI_leI (by omega) (by omega)] at h4
          exact vp_in_nI (by omega) (by decide)
        · have h5 : σ.2.2 (nI i).toNatClampNeg ≤ w.1 (nI i).toNatClampNeg := h5
          rw [ei] at h5
          rw [if_neg (by rw [decide_eq_false h3]; unfold lexB; rw [← hi, decide_eq_false (Int32.not_lt.mpr h5)]; simp)] at hch
          exact back ⟨σ.1, w.1, σ.2.2⟩ hch.symm [_, _, _] (Or.inr ⟨_, _, _, 0, Or.inl rfl⟩)
        · have h5 : ¬ σ.2.2 (nI i).toNatClampNeg ≤ w.1 (nI i).toNatClampNeg := h5
          rw [ei] at h5
          rw [nI_leI (by omega) (by omega)] at h4
          exact cp i false (by unfold lexB; rw [← hi, decide_eq_true (show i < w.2 by omega), decide_eq_true (Int32.not_le.mp h5)]; simp)
      · have h3 : σ.1 < w.2 := by
          refine Nat.lt_of_not_le fun z => h3 ?_
          exact nI_le z (by omega)
        refine zv_go C okX9_findChain [115] 20 ?_
        refine ⟨fun _ => ⟨fun _ => ?_, fun h => absurd h (by decide)⟩, fun h => absurd h (by decide)⟩
        exact cp 0 true (by rw [decide_eq_true h3]; rfl)
  refine zv_go C okX9_findChain [4] 20 ?_
  exact outer 0 (Nat.zero_le _)
set_option maxHeartbeats 4000000 in
set_option maxRecDepth 100000 in
theorem m_chain_no (l0 b0 : Nat → Int32) (i : Int32) (h : hasb (zhF Lf n l0 b0 (2 ^ n - 1)).1 i = false) (hn : n ≤ 14) : zD K yX9_chain cX9_chain 3 (some .int) (zq 3 0 0 120) [.ref (A 0), .int i] [mO A n cc, mZ K (A 1) Lf, mI K (A 7) 14 l0, mI K (A 8) 14 b0] (some (.int (-1))) [mO A n cc, mZ K (A 1) Lf, mI K (A 7) 14 (zhF Lf n l0 b0 (2 ^ n - 1)).2.1, mI K (A 8) 14 (zhF Lf n l0 b0 (2 ^ n - 1)).2.2] := by
  refine zo (by decide) (Nat.le_of_ble_eq_true rfl) fun x C R _ => ?_
  refine zv_go C okX9_chain [] 20 ?_
  refine zv_callV C (m_findChain K A n cc Lf l0 b0 hn) (zw_V inX9_findChain kX9_78 ⟨by decide, by decide⟩) [0, 1, 2, 3] 0 rfl rfl rfl rfl (fun _ => Nat.le_refl _) rfl rfl (by decide) dzX9_chain_1 (by decide) (by decide) rfl (fun _ _ => ?_)
  refine zv_to C rfl rfl (ws' := [mO A n cc, mZ K (A 1) Lf, mI K (A 7) 14 (zhF Lf n l0 b0 (2 ^ n - 1)).2.1, mI K (A 8) 14 (zhF Lf n l0 b0 (2 ^ n - 1)).2.2]) rfl ?_
  refine zv_go C okX9_chain [] 20 ?_
  refine ⟨fun h1 => ?_, fun h1 => ⟨fun h2 => ?_, fun h2 => ?_⟩⟩
  · exact zr R () [0, 1, 2, 3] (some (.int (-1))) _ rfl rfl trivial rfl rfl (Nat.zero_le _) (Nat.zero_le _) dzX9_chain_24
  · unfold hasb at h
    rw [decide_eq_false_iff_not] at h
    exact absurd ⟨Int32.not_lt.mp h1, h2⟩ h
  · exact zr R () [0, 1, 2, 3] (some (.int (-1))) _ rfl rfl trivial rfl rfl (Nat.zero_le _) (Nat.zero_le _) dzX9_chain_24
set_option maxHeartbeats 4000000 in
set_option maxRecDepth 100000 in
theorem m_chain (l0 b0 : Nat → Int32) {i : Nat} (h : i < (zhF Lf n l0 b0 (2 ^ n - 1)).1) (hn : n ≤ 14) : zD K yX9_chain cX9_chain 3 (some .int) (zq 3 0 0 120) [.ref (A 0), .int (nI i)] [mO A n cc, mZ K (A 1) Lf, mI K (A 7) 14 l0, mI K (A 8) 14 b0] (some (.int ((zhF Lf n l0 b0 (2 ^ n - 1)).2.2 i))) [mO A n cc, mZ K (A 1) Lf, mI K (A 7) 14 (zhF Lf n l0 b0 (2 ^ n - 1)).2.1, mI K (A 8) 14 (zhF Lf n l0 b0 (2 ^ n - 1)).2.2] := by
  refine zo (by decide) (Nat.le_of_ble_eq_true rfl) fun x C R _ => ?_
  have hle := zhF_le Lf n l0 b0 (2 ^ n - 1)
  refine zv_go C okX9_chain [] 20 ?_
  refine zv_callV C (m_findChain K A n cc Lf l0 b0 hn) (zw_V inX9_findChain kX9_78 ⟨by decide, by decide⟩) [0, 1, 2, 3] 0 rfl rfl rfl rfl (fun _ => Nat.le_refl _) rfl rfl (by decide) dzX9_chain_1 (by decide) (by decide) rfl (fun _ _ => ?_)
  refine zv_to C rfl rfl (ws' := [mO A n cc, mZ K (A 1) Lf, mI K (A 7) 14 (zhF Lf n l0 b0 (2 ^ n - 1)).2.1, mI K (A 8) 14 (zhF Lf n l0 b0 (2 ^ n - 1)).2.2]) rfl ?_
  refine zv_go C okX9_chain [] 20 ?_
  refine ⟨fun h1 => ?_, fun h1 => ⟨fun h2 => ⟨rfl, ⟨rfl, rfl⟩, vp_in_nI (by omega) (by decide), ?_⟩, fun h2 => ?_⟩⟩
  · exact absurd h1 (nI_nlt (b := 0) (Nat.zero_le _) (by omega))
  · exact zr R () [0, 1, 2, 3] (some (.int _)) _ (by rw [nI_clamp (by omega)]) rfl trivial rfl rfl (Nat.zero_le _) (Nat.zero_le _) dzX9_chain_24
  · exact absurd (nI_lt h (by omega)) h2
end MW
def apF (Lf : Nat → Bool) (n : Nat) : Nat → Nat
  | 0 => 0
  | k + 1 => if npc 31 (apF Lf n k) < npc 31 (k + 1) ∧ allB (fun a => allB (pisApart Lf (k + 1) a) n) n = true then k + 1 else apF Lf n k
theorem apF_le (Lf : Nat → Bool) (n : Nat) : ∀ k, apF Lf n k ≤ k
  | 0 => Nat.le_refl _
  | k + 1 => by
    have h := apF_le Lf n k
    unfold apF
    split <;> omega
section MX
variable (K : zK) (A : Nat → Nat) (n : Nat) (cc : Int32) (Lf : Nat → Bool)
set_option maxHeartbeats 4000000 in
set_option maxRecDepth 100000 in
theorem m_apart (hn : n ≤ 14) : zD K yX9_apart cX9_apart 3 (some .int) (zq 2 0 0 80) [.ref (A 0)] [mO A n cc, mZ K (A 1) Lf] (some (.int (nI (apF Lf n (2 ^ n - 1))))) [mO A n cc, mZ K (A 1) Lf] := by
  refine zo (by decide) (Nat.le_of_ble_eq_true rfl) fun x C R _ => ?_
  have hp : 0 < 2 ^ n := Nat.two_pow_pos n
  have hp14 := pow_le14 hn
  have loop : ∀ k, k ≤ 2 ^ n - 1 → zv_V x (gz K (zq 2 0 0 80) 3 cX9_apart yX9_apart.cls) 4 [(0, .ref (A 0)), (1, .int (nI (apF Lf n k))), (2, .int (nI (k + 1)))] [] [mO A n cc, mZ K (A 1) Lf] 0 0 := by
    refine zl (2 ^ n - 1) ?_ fun k hk ih => ?_
    · refine zv_go C okX9_apart [] 20 ?_
      refine zv_callV C (m_all K A n cc hn) (zw_V inX9_all kX9_61 ⟨by decide, by decide⟩) [0] 0 rfl rfl rfl rfl (fun _ => Nat.le_refl _) (rest := [.int (nI (2 ^ n - 1 + 1))]) rfl rfl (Nat.le_of_ble_eq_true rfl) dzX9_apart_6 (by decide) (by decide) rfl (fun _ _ => ?_)
      refine zv_to C rfl rfl (ws' := [mO A n cc, mZ K (A 1) Lf]) rfl ?_
      refine zv_go C okX9_apart [] 20 ?_
      refine ⟨fun _ => ?_, fun h => absurd (nI_lt (by omega) (by omega)) h⟩
      exact zr R () [0, 1] (some (.int _)) _ rfl rfl trivial rfl rfl (Nat.zero_le _) (Nat.zero_le _) dzX9_apart_44
    · have hal := apF_le Lf n k
      have h1 := npc_le 31 (k + 1)
      have h2 := npc_le 31 (apF Lf n k)
      refine zv_go C okX9_apart [] 20 ?_
      refine zv_callV C (m_all K A n cc hn) (zw_V inX9_all kX9_61 ⟨by decide, by decide⟩) [0] 0 rfl rfl rfl rfl (fun _ => Nat.le_refl _) (rest := [.int (nI (k + 1))]) rfl rfl (Nat.le_of_ble_eq_true rfl) dzX9_apart_6 (by decide) (by decide) rfl (fun _ _ => ?_)
      refine zv_to C rfl rfl (ws' := [mO A n cc, mZ K (A 1) Lf]) rfl ?_
      refine zv_go C okX9_apart [] 20 ?_
      refine ⟨fun h => absurd h (nI_nlt (by omega) (by omega)), fun _ => ?_⟩
      refine zv_callS C (m_size K (s := k + 1) (by omega)) (zw_S inX9_size kX9_64 ⟨by decide, by decide⟩) [] rfl rfl (fun _ => Nat.le_refl _) rfl rfl (by decide) dzX9_apart_13 (by decide) (by decide) rfl (fun _ _ => ?_)
      refine zv_to C rfl rfl (ws' := [mO A n cc, mZ K (A 1) Lf]) rfl ?_
      refine zv_go C okX9_apart [] 20 ?_
      refine zv_callS C (m_size K (s := apF Lf n k) (by omega)) (zw_S inX9_size kX9_64 ⟨by decide, by decide⟩) [] rfl rfl (fun _ => Nat.le_refl _) (rest := [.int (nI (npc 31 (k + 1)))]) rfl rfl (Nat.le_of_ble_eq_true rfl) dzX9_apart_17 (by decide) (by decide) rfl (fun _ _ => ?_)
      refine zv_to C rfl rfl (ws' := [mO A n cc, mZ K (A 1) Lf]) rfl ?_
      refine zv_go C okX9_apart [4] 20 ?_
      refine ⟨fun h => ?_, fun h => ?_⟩
      · rw [nI_leI (by omega) (by omega)] at h
        have e : apF Lf n (k + 1) = apF Lf n k := by rw [apF, if_neg (fun q => by omega)]
        rw [e] at ih
        exact zv_to C (lv' := [(0, .ref (A 0)), (1, .int (nI (apF Lf n k))), (2, .int (nI (k + 1 + 1)))]) (by rw [← nI_1 (k + 1)] <;> rfl) rfl rfl ih
      · have h : npc 31 (apF Lf n k) < npc 31 (k + 1) := Nat.lt_of_not_le fun z => h (nI_le z (by omega))
        refine zv_callV C (m_isApart K A n cc Lf (s := k + 1) (by omega) hn) (zw_V inX9_isApart kX9_75 ⟨by decide, by decide⟩) [0, 1] 0 rfl rfl rfl rfl (fun _ => Nat.le_refl _) rfl rfl (by decide) dzX9_apart_25 (by decide) (by decide) rfl (fun _ _ => ?_)
        refine zv_to C rfl rfl (ws' := [mO A n cc, mZ K (A 1) Lf]) rfl ?_
        refine zv_go C okX9_apart [4] 20 ?_
        refine ⟨fun h3 => ?_, fun h3 => ?_⟩
        · rw [bI_0] at h3
          have e : apF Lf n (k + 1) = apF Lf n k := by rw [apF, if_neg (fun q => by rw [h3] at q; cases q.2)]
          rw [e] at ih
          exact zv_to C (lv' := [(0, .ref (A 0)), (1, .int (nI (apF Lf n k))), (2, .int (nI (k + 1 + 1)))]) (by rw [← nI_1 (k + 1)] <;> rfl) rfl rfl ih
        · rw [bI_1] at h3
          have e : apF Lf n (k + 1) = k + 1 := by rw [apF, if_pos ⟨h, h3⟩]
          rw [e] at ih
          exact zv_to C (lv' := [(0, .ref (A 0)), (1, .int (nI (k + 1))), (2, .int (nI (k + 1 + 1)))]) (by rw [← nI_1 (k + 1)] <;> rfl) rfl rfl ih
  refine zv_go C okX9_apart [4] 20 ?_
  exact loop 0 (Nat.zero_le _)
end MX
