/-! MATCHING: pairUp, most, widthOf -/
abbrev wM (K : zK) (m o b a p : Nat) (bl ab : Nat → Nat) (n : Nat) (ver : Int32) (pf : Nat → Int32) (up tr : Int32) : va_W := [(m, .inr (2, [.ref o, .ref p, .int up, .int tr])), (o, .inr (4, [.ref b, .ref a, .int (nI n), .int ver])), (b, .inl (cI K, 14, .inl (fun j => nI (bl j)))), (a, .inl (cI K, 14, .inl (fun j => nI (ab j)))), (p, .inl (cI K, 14, .inl pf))]
def oI : Option Nat → Int32
  | none => -1
  | some j => nI j
theorem nI_m1 {j : Nat} (h : j < 2 ^ 31) : ¬ nI j = -1 := by
  intro e
  have h1 := congrArg Int32.toInt e
  rw [nI_toInt h] at h1
  have h2 : (-1 : Int32).toInt = -1 := by decide
  omega
/-- the run over the uppers of one lower; F: the run for one that must give way -/
def pul (ab : Nat → Nat) (n up : Nat) (F : Nat → (Nat → Option Nat) → Nat → Bool × (Nat → Option Nat) × Nat) (lower : Nat) : Nat → (Nat → Option Nat) → Nat → Bool × (Nat → Option Nat) × Nat
  | 0, P, T => (false, P, T)
  | m + 1, P, T =>
    if (ab lower &&& up).testBit (n - (m + 1)) = true ∧ T.testBit (n - (m + 1)) = false then
      match P (n - (m + 1)) with
      | none => (true, va_up P (n - (m + 1)) (some lower), T ||| 2 ^ (n - (m + 1)))
      | some j => match F j P (T ||| 2 ^ (n - (m + 1))) with
        | (true, P2, T2) => (true, va_up P2 (n - (m + 1)) (some lower), T2)
        | (false, P2, T2) => pul ab n up F lower m P2 T2
    else pul ab n up F lower m P T
def pu (ab : Nat → Nat) (n up : Nat) : Nat → Nat → (Nat → Option Nat) → Nat → Bool × (Nat → Option Nat) × Nat
  | 0, _, P, T => (false, P, T)
  | d + 1, lower, P, T => pul ab n up (pu ab n up d) lower n P T
def puV (P : Nat → Option Nat) : Prop := ∀ u j, P u = some j → j < 14
theorem puV_up {P : Nat → Option Nat} (h : puV P) {u j : Nat} (hj : j < 14) : puV (va_up P u (some j)) := by
  intro v i hv
  unfold va_up at hv
  by_cases e : v = u
  · rw [if_pos e] at hv
    cases hv
    exact hj
  · rw [if_neg e] at hv
    exact h v i hv
theorem pul_ok {ab : Nat → Nat} {n up : Nat} {F : Nat → (Nat → Option Nat) → Nat → Bool × (Nat → Option Nat) × Nat} (hn : n ≤ 14) (hF : ∀ j P T, j < 14 → puV P → T < 2 ^ 14 → puV (F j P T).2.1 ∧ (F j P T).2.2 < 2 ^ 14) {lower : Nat} (hl : lower < 14) : ∀ (m : Nat) (P : Nat → Option Nat) (T : Nat), m ≤ n → puV P → T < 2 ^ 14 → puV (pul ab n up F lower m P T).2.1 ∧ (pul ab n up F lower m P T).2.2 < 2 ^ 14
  | 0, P, T, _, hP, hT => ⟨hP, hT⟩
  | m + 1, P, T, hm, hP, hT => by
    have hT2 : T ||| 2 ^ (n - (m + 1)) < 2 ^ 14 := nb_lt_or hT (nb_lt_pow (by omega))
    unfold pul
    split
    · split
      · exact ⟨puV_up hP hl, hT2⟩
      · rename_i j hj
        have h1 := hF j P (T ||| 2 ^ (n - (m + 1))) (hP _ _ hj) hP hT2
        split
        · rename_i P2 T2 he
          rw [he] at h1
          exact ⟨puV_up h1.1 hl, h1.2⟩
        · rename_i P2 T2 he
          rw [he] at h1
          exact pul_ok hn hF hl m P2 T2 (by omega) h1.1 h1.2
    · exact pul_ok hn hF hl m P T (by omega) hP hT
theorem pu_ok {ab : Nat → Nat} {n up : Nat} (hn : n ≤ 14) : ∀ (d lower : Nat) (P : Nat → Option Nat) (T : Nat), lower < 14 → puV P → T < 2 ^ 14 → puV (pu ab n up d lower P T).2.1 ∧ (pu ab n up d lower P T).2.2 < 2 ^ 14
  | 0, _, P, T, _, hP, hT => ⟨hP, hT⟩
  | d + 1, lower, P, T, hl, hP, hT => pul_ok hn (fun j P T => pu_ok hn d j P T) hl n P T (Nat.le_refl _) hP hT
theorem oI_up (P : Nat → Option Nat) (u lower : Nat) : upd (fun j => oI (P j)) u (nI lower) = fun j => oI (va_up P u (some lower) j) := by
  funext j
  unfold va_up
  by_cases e : j = u
  · rw [e, pk_us, if_pos rfl]; rfl
  · rw [pk_un e, if_neg e]
set_option maxHeartbeats 4000000 in
set_option maxRecDepth 100000 in
theorem c_pairUp (K : zK) (m o b a p : Nat) (bl ab : Nat → Nat) (n : Nat) (ver : Int32) (up : Nat) (hn : n ≤ 14) (ha : ∀ j, ab j < 2 ^ 14) : ∀ (d : Nat), d ≤ 15 → ∀ (lower : Nat) (P : Nat → Option Nat) (T : Nat), lower < 14 → puV P → T < 2 ^ 14 →
    zD K yX2_pairUp cX2_pairUp 4 (some .boolean) (zq d 0 0 (23 * d)) [.ref m, .int (nI lower), .int (nI (15 - d))] (wM K m o b a p bl ab n ver (fun j => oI (P j)) (nI up) (nI T)) (some (.int (bI (pu ab n up d lower P T).1))) (wM K m o b a p bl ab n ver (fun j => oI ((pu ab n up d lower P T).2.1 j)) (nI up) (nI (pu ab n up d lower P T).2.2)) := by
  intro d
  induction d with
  | zero =>
    intro _ lower P T hl hP hT
    refine zo (by decide) (Nat.le_of_ble_eq_true rfl) fun x C R _ => ?_
    refine zv_go C okX2_pairUp [] 20 ?_
    refine ⟨fun h => absurd h (by decide), fun _ => ?_⟩
    exact zr R () [0, 1, 2, 3, 4] (some (.int 0)) _ rfl rfl trivial rfl rfl (Nat.le_refl _) (Nat.le_refl _) ⟨rfl, dzX2_pairUp_7⟩
  | succ d ihd =>
    intro hd lower P0 T0 hl hP0 hT0
    have ihd := ihd (by omega)
    refine zo (by decide) (Nat.le_of_ble_eq_true rfl) fun x C R _ => ?_
    have loop : ∀ mm (P : Nat → Option Nat) (T : Nat), mm ≤ n → puV P → T < 2 ^ 14 → pul ab n up (pu ab n up d) lower mm P T = pu ab n up (d + 1) lower P0 T0 → zv_V x (gz K (zq (d + 1) 0 0 (23 * (d + 1))) 4 cX2_pairUp yX2_pairUp.cls) 10 [(0, .ref m), (1, .int (nI lower)), (2, .int (nI (15 - (d + 1)))), (3, .int (nI (n - mm)))] [] (wM K m o b a p bl ab n ver (fun j => oI (P j)) (nI up) (nI T)) 0 0 := by
      intro mm
      induction mm with
      | zero =>
        intro P T _ hP hT he
        refine zv_go C okX2_pairUp [] 20 ?_
        refine ⟨rfl, rfl, fun _ => ?_, fun h => absurd (nI_le (by omega) (by omega)) h⟩
        have he : (false, P, T) = pu ab n up (d + 1) lower P0 T0 := he
        exact zr R () [0, 1, 2, 3, 4] (some (.int 0)) _ (by rw [← he]; rfl) (by rw [← he]) trivial rfl rfl (Nat.le_refl _) (Nat.le_refl _) ⟨rfl, dzX2_pairUp_103⟩
      | succ mm ih =>
        intro P T hmm hP hT he
        have hu : n - (mm + 1) < n := by omega
        have hT2 : T ||| 2 ^ (n - (mm + 1)) < 2 ^ 14 := nb_lt_or hT (nb_lt_pow (by omega))
        have hsl : ndf (ab lower &&& up) T < 2 ^ 32 := Nat.lt_of_le_of_lt (ndf_le _ _) (Nat.lt_of_le_of_lt Nat.and_le_left (Nat.lt_trans (ha lower) (by decide)))
        have enx : nI (n - (mm + 1)) + 1 = nI (n - mm) := by rw [nI_1]; congr 1; omega
        refine zv_go C okX2_pairUp [10] 60 ?_
        refine ⟨rfl, rfl, fun h => absurd h (nI_ge (by omega) (by omega)), fun _ => ⟨rfl, rfl, ⟨rfl, rfl⟩, vp_in_nI hl (by decide), rfl, rfl, fun h => ?_, fun h => ⟨rfl, rfl, rfl, ⟨rfl, rfl⟩, vp_in_nI (by omega) (by decide), fun h2 => ⟨rfl, ⟨rfl, rfl⟩, vp_in_nI (by omega) (by decide), ?_⟩, fun h2 => ⟨rfl, ⟨rfl, rfl⟩, vp_in_nI (by omega) (by decide), ?_⟩⟩⟩⟩
        · -- not to be tried
          rw [nI_clamp (by omega), nb_and, nb_not, nb_t0 hsl (by omega), ndf_tb] at h
          unfold pul at he
          rw [if_neg (fun q => by rw [q.1, q.2] at h; cases h)] at he
          exact zv_to C (lv' := [(0, .ref m), (1, .int (nI lower)), (2, .int (nI (15 - (d + 1)))), (3, .int (nI (n - mm)))]) (by rw [← enx]; rfl) rfl rfl (ih P T (by omega) hP hT he)
        · -- free: taken
          rw [nI_clamp (by omega), nb_and, nb_not, nb_t1 hsl (by omega), ndf_tb, Bool.and_eq_true, Bool.not_eq_true'] at h
          have h2 : oI (P (nI (n - (mm + 1))).toNatClampNeg) = -1 := h2
          rw [nI_clamp (by omega)] at h2
          have hp : P (n - (mm + 1)) = none := by
            cases hq : P (n - (mm + 1)) with
            | none => rfl
            | some j => rw [hq] at h2; exact absurd h2 (nI_m1 (Nat.lt_trans (hP _ _ hq) (by decide)))
          unfold pul at he
          rw [if_pos h] at he
          rw [hp] at he
          refine zr R () [0, 1, 2, 3, 4] (some (.int 1)) (wM K m o b a p bl ab n ver (fun j => oI (va_up P (n - (mm + 1)) (some lower) j)) (nI up) (nI (T ||| 2 ^ (n - (mm + 1))))) (by rw [← he]; rfl) (by rw [← he]) trivial ?_ rfl (Nat.le_refl _) (Nat.le_refl _) ⟨rfl, dzX2_pairUp_95⟩
          rw [← oI_up, ← nb_or, ← nb_1s (n - (mm + 1)) (by omega)]
          have ec : (nI (n - (mm + 1))).toNatClampNeg = n - (mm + 1) := nI_clamp (by omega)
          show [some _, some _, some _, some _, some (p, Sum.inl (cI K, 14, Sum.inl (upd (fun j => oI (P j)) (nI (n - (mm + 1))).toNatClampNeg (nI lower))))] = _
          rw [ec]
          rfl
        · -- taken by one that may give way
          rw [nI_clamp (by omega), nb_and, nb_not, nb_t1 hsl (by omega), ndf_tb, Bool.and_eq_true, Bool.not_eq_true'] at h
          have h2 : ¬ oI (P (nI (n - (mm + 1))).toNatClampNeg) = -1 := h2
          rw [nI_clamp (by omega)] at h2
          cases hq : P (n - (mm + 1)) with
          | none => rw [hq] at h2; exact absurd rfl h2
          | some j =>
            have hj := hP _ _ hq
            unfold pul at he
            rw [if_pos h] at he
            rw [hq] at he
            dsimp only at he
            have hok := pu_ok (ab := ab) (up := up) hn d j P (T ||| 2 ^ (n - (mm + 1))) hj hP hT2
            refine zv_to C rfl (st' := [.int (nI (15 - d)), .int (nI j), .ref m]) ?_ (ws' := wM K m o b a p bl ab n ver (fun j => oI (P j)) (nI up) (nI (T ||| 2 ^ (n - (mm + 1))))) ?_ ?_
            · show [Value.int (nI (15 - (d + 1)) + 1), Value.int (oI (P (nI (n - (mm + 1))).toNatClampNeg)), Value.ref m] = _
              rw [nI_clamp (by omega), hq, nI_1]
              have e9 : 15 - (d + 1) + 1 = 15 - d := by omega
              rw [e9]
              rfl
            · rw [← nb_or, ← nb_1s (n - (mm + 1)) (by omega)]
              rfl
            refine zv_callV C (ihd j P (T ||| 2 ^ (n - (mm + 1))) hj hP hT2) (zw_V inX2_pairUp kX2_31 ⟨Nat.le_refl _, by show 8 + (4 + 11) + 23 * d ≤ 23 * (d + 1); omega⟩) [0, 1, 2, 3, 4] 0 rfl rfl rfl rfl (fun _ => Nat.le_refl _) rfl rfl (by decide) dzX2_pairUp_81 (Nat.le_refl _) (Nat.le_refl _) rfl (fun _ _ => ?_)
            generalize hr : pu ab n up d j P (T ||| 2 ^ (n - (mm + 1))) = r at he hok ⊢
            obtain ⟨r1, P2, T2⟩ := r
            refine zv_to C rfl rfl (ws' := wM K m o b a p bl ab n ver (fun j => oI (P2 j)) (nI up) (nI T2)) rfl ?_
            refine zv_go C okX2_pairUp [10] 60 ?_
            refine ⟨fun h3 => ?_, fun h3 => ⟨rfl, ⟨rfl, rfl⟩, vp_in_nI (by omega) (by decide), ?_⟩⟩
            · rw [bI_0] at h3
              have h3 : r1 = false := h3
              subst h3
              exact zv_to C (lv' := [(0, .ref m), (1, .int (nI lower)), (2, .int (nI (15 - (d + 1)))), (3, .int (nI (n - mm)))]) (by rw [← enx]; rfl) rfl rfl (ih P2 T2 (by omega) hok.1 hok.2 he)
            · rw [bI_1] at h3
              have h3 : r1 = true := h3
              subst h3
              refine zr R () [0, 1, 2, 3, 4] (some (.int 1)) (wM K m o b a p bl ab n ver (fun j => oI (va_up P2 (n - (mm + 1)) (some lower) j)) (nI up) (nI T2)) (by rw [← he]; rfl) (by rw [← he]) trivial ?_ rfl (Nat.le_refl _) (Nat.le_refl _) ⟨rfl, dzX2_pairUp_95⟩
              rw [← oI_up]
              have ec : (nI (n - (mm + 1))).toNatClampNeg = n - (mm + 1) := nI_clamp (by omega)
              show [some _, some _, some _, some _, some (p, Sum.inl (cI K, 14, Sum.inl (upd (fun j => oI (P2 j)) (nI (n - (mm + 1))).toNatClampNeg (nI lower))))] = _
              rw [ec]
              rfl
    refine zv_go C okX2_pairUp [10] 20 ?_
    refine ⟨fun _ => ?_, fun h => absurd (nI_le (a := 15 - (d + 1)) (b := 14) (by omega) (by decide)) h⟩
    refine zv_to C (lv' := [(0, .ref m), (1, .int (nI lower)), (2, .int (nI (15 - (d + 1)))), (3, .int (nI (n - n)))]) (by rw [Nat.sub_self]; rfl) rfl rfl (loop n P0 T0 (Nat.le_refl _) hP0 hT0 rfl)
