/-! THE MODEL: loops of truths -/
def allB (p : Nat → Bool) : Nat → Bool
  | 0 => true
  | k + 1 => allB p k && p k
def setB (q : Nat → Bool) : Nat → Nat
  | 0 => 0
  | k + 1 => setB q k ||| (if q k = true then 2 ^ k else 0)
theorem setB_lt {q : Nat → Bool} : ∀ k, setB q k < 2 ^ k
  | 0 => Nat.zero_lt_one
  | k + 1 => by
    have h := setB_lt (q := q) k
    unfold setB
    refine nb_lt_or (Nat.lt_trans h (nb_lt_pow (by omega))) ?_
    split
    · exact nb_lt_pow (by omega)
    · exact Nat.two_pow_pos _
section MB
variable (K : zK) (A : Nat → Nat) (n : Nat) (cc : Int32) (Lf : Nat → Bool)
def pisChain (Lf : Nat → Bool) (s a b : Nat) : Bool := (!s.testBit a || (!s.testBit b || (Lf (16 * a + b) || Lf (16 * b + a))))
set_option maxHeartbeats 4000000 in
set_option maxRecDepth 100000 in
theorem m_isChain {s : Nat} (hs : s < 2 ^ 14) (hn : n ≤ 14) : zD K yX9_isChain cX9_isChain 5 (some .boolean) (zq 1 0 0 22) [.ref (A 0), .int (nI s)] [mO A n cc, mZ K (A 1) Lf] (some (.int (bI (allB (fun a => allB (pisChain Lf s a) a)  n)))) [mO A n cc, mZ K (A 1) Lf] := by
  refine zo (by decide) (Nat.le_of_ble_eq_true rfl) fun x C R _ => ?_
  have loop : ∀ mm a (lv2 : zv_L), a + mm = n → (lv2 = [] ∨ ∃ z, lv2 = [(4, .int z)]) → zv_V x (gz K (zq 1 0 0 22) 5 cX9_isChain yX9_isChain.cls) 4 ([(0, .ref (A 0)), (1, .int (nI s)), (2, .int (bI (allB (fun a => allB (pisChain Lf s a) a) a))), (3, .int (nI a))] ++ lv2) [] [mO A n cc, mZ K (A 1) Lf] 0 0 := by
    intro mm
    induction mm with
    | zero =>
      intro a lv2 ha hl2
      have e : a = n := by omega
      refine zv_drop C [0, 1, 2, 3] (lv' := [(0, .ref (A 0)), (1, .int (nI s)), (2, .int (bI (allB (fun a => allB (pisChain Lf s a) a) a))), (3, .int (nI a))]) (by rcases hl2 with rfl | ⟨z, rfl⟩ <;> rfl) ?_
      subst e
      refine zv_go C okX9_isChain [] 20 ?_
      refine ⟨rfl, fun _ => ?_, fun h => absurd (nI_le (Nat.le_refl _) (by omega)) h⟩
      exact zr R () [0, 1] (some (.int _)) _ rfl rfl trivial rfl rfl (Nat.le_refl _) (Nat.le_refl _) ⟨bI_nar _, dzX9_isChain_81⟩
    | succ mm ih =>
      intro a lv2 ha hl2
      refine zv_drop C [0, 1, 2, 3] (lv' := [(0, .ref (A 0)), (1, .int (nI s)), (2, .int (bI (allB (fun a => allB (pisChain Lf s a) a) a))), (3, .int (nI a))]) (by rcases hl2 with rfl | ⟨z, rfl⟩ <;> rfl) ?_
      have inner : ∀ m2 b, b + m2 = a → zv_V x (gz K (zq 1 0 0 22) 5 cX9_isChain yX9_isChain.cls) 15 [(0, .ref (A 0)), (1, .int (nI s)), (2, .int (bI (allB (fun a => allB (pisChain Lf s a) a) a && allB (pisChain Lf s a) b))), (3, .int (nI a)), (4, .int (nI b))] [] [mO A n cc, mZ K (A 1) Lf] 0 0 := by
        intro m2
        induction m2 with
        | zero =>
          intro b hb
          have e : a = b := by omega
          subst e
          refine zv_go C okX9_isChain [4] 20 ?_
          refine ⟨fun _ => ?_, fun h => absurd (nI_le (Nat.le_refl _) (by omega)) h⟩
          exact zv_to C (lv' := [(0, .ref (A 0)), (1, .int (nI s)), (2, .int (bI (allB (fun a => allB (pisChain Lf s a) a) (a + 1)))), (3, .int (nI (a + 1))), (4, .int (nI a))]) (by rw [← nI_1] <;> rfl) rfl rfl (ih (a + 1) [_] (by omega) (Or.inr ⟨_, rfl⟩))
        | succ m2 ih2 =>
          intro b hb
          have hab : 16 * a + b < 256 ∧ 16 * b + a < 256 := by omega
          generalize hf : (allB (fun a => allB (pisChain Lf s a) a) a && allB (pisChain Lf s a) b) = f
          have join : ∀ c : Int32, c = bI (f && (!s.testBit a || (!s.testBit b || (Lf (16 * a + b) || Lf (16 * b + a))))) → zv_V x (gz K (zq 1 0 0 22) 5 cX9_isChain yX9_isChain.cls) 67 [(0, .ref (A 0)), (1, .int (nI s)), (2, .int (bI (f))), (3, .int (nI a)), (4, .int (nI b))] [.int c] [mO A n cc, mZ K (A 1) Lf] 0 0 := by
            intro c hc
            subst hc
            refine zv_go C okX9_isChain [15] 20 ?_
            refine zv_to C (lv' := [(0, .ref (A 0)), (1, .int (nI s)), (2, .int (bI (allB (fun a => allB (pisChain Lf s a) a) a && allB (pisChain Lf s a) (b + 1)))), (3, .int (nI a)), (4, .int (nI (b + 1)))]) ?_ rfl rfl (ih2 (b + 1) (by omega))
            have e3 : (allB (fun a => allB (pisChain Lf s a) a) a && allB (pisChain Lf s a) (b + 1)) = (f && (!s.testBit a || (!s.testBit b || (Lf (16 * a + b) || Lf (16 * b + a))))) := by
              rw [← hf, allB, ← Bool.and_assoc]
              rfl
            rw [e3, ← nI_1]
            rfl
          refine zv_go C okX9_isChain [] 3 ?_
          refine ⟨fun h => absurd h (nI_ge (by omega) (by omega)), fun _ => ?_⟩
          refine zv_go C okX9_isChain [] 2 ?_
          refine ⟨fun q1 => ?_, fun q1 => ?_⟩
          · rw [bI_0] at q1
            refine zv_go C okX9_isChain [67] 1 ?_
            exact join _ (by simp [bI, q1])
          · rw [bI_1] at q1
            refine zv_go C okX9_isChain [] 2 ?_
            refine zv_callS C (m_isIn K (s := s) (v := a) (by omega) (by omega)) (zw_S inX9_isIn kX9_58 ⟨by decide, by decide⟩) [] rfl rfl (fun _ => Nat.le_refl _) rfl rfl (by decide) dzX9_isChain_27 (by decide) (by decide) rfl (fun _ _ => ?_)
            refine zv_to C rfl rfl (ws' := [mO A n cc, mZ K (A 1) Lf]) rfl ?_
            refine zv_go C okX9_isChain [] 1 ?_
            refine ⟨fun q2 => ?_, fun q2 => ?_⟩
            · rw [bI_0] at q2
              refine zv_go C okX9_isChain [67] 2 ?_
              exact join _ (by simp [bI, q1, q2])
            · rw [bI_1] at q2
              refine zv_go C okX9_isChain [] 2 ?_
              refine zv_callS C (m_isIn K (s := s) (v := b) (by omega) (by omega)) (zw_S inX9_isIn kX9_58 ⟨by decide, by decide⟩) [] rfl rfl (fun _ => Nat.le_refl _) rfl rfl (by decide) dzX9_isChain_36 (by decide) (by decide) rfl (fun _ _ => ?_)
              refine zv_to C rfl rfl (ws' := [mO A n cc, mZ K (A 1) Lf]) rfl ?_
              refine zv_go C okX9_isChain [] 1 ?_
              refine ⟨fun q3 => ?_, fun q3 => ?_⟩
              · rw [bI_0] at q3
                refine zv_go C okX9_isChain [67] 2 ?_
                exact join _ (by simp [bI, q1, q2, q3])
              · rw [bI_1] at q3
                refine zv_go C okX9_isChain [] 3 ?_
                refine zv_callV C (m_is K A n cc Lf (a := a) (b := b) (by omega)) (zw_V inX9_is kX9_46 ⟨by decide, by decide⟩) [0, 1] 0 rfl rfl rfl rfl (fun _ => Nat.le_refl _) rfl rfl (by decide) dzX9_isChain_46 (by decide) (by decide) rfl (fun _ _ => ?_)
                refine zv_to C rfl rfl (ws' := [mO A n cc, mZ K (A 1) Lf]) rfl ?_
                refine zv_go C okX9_isChain [] 1 ?_
                refine ⟨fun q4 => ?_, fun q4 => ?_⟩
                · rw [bI_1] at q4
                  refine zv_go C okX9_isChain [67] 2 ?_
                  exact join _ (by simp [bI, q1, q2, q3, q4])
                · rw [bI_0] at q4
                  refine zv_go C okX9_isChain [] 3 ?_
                  refine zv_callV C (m_is K A n cc Lf (a := b) (b := a) (by omega)) (zw_V inX9_is kX9_46 ⟨by decide, by decide⟩) [0, 1] 0 rfl rfl rfl rfl (fun _ => Nat.le_refl _) rfl rfl (by decide) dzX9_isChain_56 (by decide) (by decide) rfl (fun _ _ => ?_)
                  refine zv_to C rfl rfl (ws' := [mO A n cc, mZ K (A 1) Lf]) rfl ?_
                  refine zv_go C okX9_isChain [] 1 ?_
                  refine ⟨fun q5 => ?_, fun q5 => ?_⟩
                  · rw [bI_0] at q5
                    refine zv_go C okX9_isChain [67] 1 ?_
                    exact join _ (by simp [bI, q1, q2, q3, q4, q5])
                  · rw [bI_1] at q5
                    refine zv_go C okX9_isChain [67] 2 ?_
                    exact join _ (by simp [bI, q1, q2, q3, q4, q5])
      refine zv_go C okX9_isChain [15] 20 ?_
      refine ⟨rfl, fun h => absurd h (nI_ge (by omega) (by omega)), fun _ => ?_⟩
      exact zv_to C (lv' := [(0, .ref (A 0)), (1, .int (nI s)), (2, .int (bI (allB (fun a => allB (pisChain Lf s a) a) a && allB (pisChain Lf s a) 0))), (3, .int (nI a)), (4, .int (nI 0))]) (by rw [allB.eq_1, Bool.and_true] <;> rfl) rfl rfl (inner a 0 (by omega))
  refine zv_go C okX9_isChain [4] 20 ?_
  exact loop n 0 [] (by omega) (Or.inl rfl)
def pisApart (Lf : Nat → Bool) (s a b : Nat) : Bool := (!s.testBit a || (!s.testBit b || !Lf (16 * a + b)))
set_option maxHeartbeats 4000000 in
set_option maxRecDepth 100000 in
theorem m_isApart {s : Nat} (hs : s < 2 ^ 14) (hn : n ≤ 14) : zD K yX9_isApart cX9_isApart 5 (some .boolean) (zq 1 0 0 22) [.ref (A 0), .int (nI s)] [mO A n cc, mZ K (A 1) Lf] (some (.int (bI (allB (fun a => allB (pisApart Lf s a) n)  n)))) [mO A n cc, mZ K (A 1) Lf] := by
  refine zo (by decide) (Nat.le_of_ble_eq_true rfl) fun x C R _ => ?_
  have loop : ∀ mm a (lv2 : zv_L), a + mm = n → (lv2 = [] ∨ ∃ z, lv2 = [(4, .int z)]) → zv_V x (gz K (zq 1 0 0 22) 5 cX9_isApart yX9_isApart.cls) 4 ([(0, .ref (A 0)), (1, .int (nI s)), (2, .int (bI (allB (fun a => allB (pisApart Lf s a) n) a))), (3, .int (nI a))] ++ lv2) [] [mO A n cc, mZ K (A 1) Lf] 0 0 := by
    intro mm
    induction mm with
    | zero =>
      intro a lv2 ha hl2
      have e : a = n := by omega
      refine zv_drop C [0, 1, 2, 3] (lv' := [(0, .ref (A 0)), (1, .int (nI s)), (2, .int (bI (allB (fun a => allB (pisApart Lf s a) n) a))), (3, .int (nI a))]) (by rcases hl2 with rfl | ⟨z, rfl⟩ <;> rfl) ?_
      subst e
      refine zv_go C okX9_isApart [] 20 ?_
      refine ⟨rfl, fun _ => ?_, fun h => absurd (nI_le (Nat.le_refl _) (by omega)) h⟩
      exact zr R () [0, 1] (some (.int _)) _ rfl rfl trivial rfl rfl (Nat.le_refl _) (Nat.le_refl _) ⟨bI_nar _, dzX9_isApart_74⟩
    | succ mm ih =>
      intro a lv2 ha hl2
      refine zv_drop C [0, 1, 2, 3] (lv' := [(0, .ref (A 0)), (1, .int (nI s)), (2, .int (bI (allB (fun a => allB (pisApart Lf s a) n) a))), (3, .int (nI a))]) (by rcases hl2 with rfl | ⟨z, rfl⟩ <;> rfl) ?_
      have inner : ∀ m2 b, b + m2 = n → zv_V x (gz K (zq 1 0 0 22) 5 cX9_isApart yX9_isApart.cls) 15 [(0, .ref (A 0)), (1, .int (nI s)), (2, .int (bI (allB (fun a => allB (pisApart Lf s a) n) a && allB (pisApart Lf s a) b))), (3, .int (nI a)), (4, .int (nI b))] [] [mO A n cc, mZ K (A 1) Lf] 0 0 := by
        intro m2
        induction m2 with
        | zero =>
          intro b hb
          have e : b = n := by omega
          subst e
          refine zv_go C okX9_isApart [4] 20 ?_
          refine ⟨rfl, fun _ => ?_, fun h => absurd (nI_le (Nat.le_refl _) (by omega)) h⟩
          exact zv_to C (lv' := [(0, .ref (A 0)), (1, .int (nI s)), (2, .int (bI (allB (fun a => allB (pisApart Lf s a) b) (a + 1)))), (3, .int (nI (a + 1))), (4, .int (nI b))]) (by rw [← nI_1] <;> rfl) rfl rfl (ih (a + 1) [_] (by omega) (Or.inr ⟨_, rfl⟩))
        | succ m2 ih2 =>
          intro b hb
          have hab : 16 * a + b < 256 ∧ 16 * b + a < 256 := by omega
          generalize hf : (allB (fun a => allB (pisApart Lf s a) n) a && allB (pisApart Lf s a) b) = f
          have join : ∀ c : Int32, c = bI (f && (!s.testBit a || (!s.testBit b || !Lf (16 * a + b)))) → zv_V x (gz K (zq 1 0 0 22) 5 cX9_isApart yX9_isApart.cls) 60 [(0, .ref (A 0)), (1, .int (nI s)), (2, .int (bI (f))), (3, .int (nI a)), (4, .int (nI b))] [.int c] [mO A n cc, mZ K (A 1) Lf] 0 0 := by
            intro c hc
            subst hc
            refine zv_go C okX9_isApart [15] 20 ?_
            refine zv_to C (lv' := [(0, .ref (A 0)), (1, .int (nI s)), (2, .int (bI (allB (fun a => allB (pisApart Lf s a) n) a && allB (pisApart Lf s a) (b + 1)))), (3, .int (nI a)), (4, .int (nI (b + 1)))]) ?_ rfl rfl (ih2 (b + 1) (by omega))
            have e3 : (allB (fun a => allB (pisApart Lf s a) n) a && allB (pisApart Lf s a) (b + 1)) = (f && (!s.testBit a || (!s.testBit b || !Lf (16 * a + b)))) := by
              rw [← hf, allB, ← Bool.and_assoc]
              rfl
            rw [e3, ← nI_1]
            rfl
          refine zv_go C okX9_isApart [] 4 ?_
          refine ⟨rfl, fun h => absurd h (nI_ge (by omega) (by omega)), fun _ => ?_⟩
          refine zv_go C okX9_isApart [] 2 ?_
          refine ⟨fun q1 => ?_, fun q1 => ?_⟩
          · rw [bI_0] at q1
            refine zv_go C okX9_isApart [60] 1 ?_
            exact join _ (by simp [bI, q1])
          · rw [bI_1] at q1
            refine zv_go C okX9_isApart [] 2 ?_
            refine zv_callS C (m_isIn K (s := s) (v := a) (by omega) (by omega)) (zw_S inX9_isIn kX9_58 ⟨by decide, by decide⟩) [] rfl rfl (fun _ => Nat.le_refl _) rfl rfl (by decide) dzX9_isApart_30 (by decide) (by decide) rfl (fun _ _ => ?_)
            refine zv_to C rfl rfl (ws' := [mO A n cc, mZ K (A 1) Lf]) rfl ?_
            refine zv_go C okX9_isApart [] 1 ?_
            refine ⟨fun q2 => ?_, fun q2 => ?_⟩
            · rw [bI_0] at q2
              refine zv_go C okX9_isApart [60] 2 ?_
              exact join _ (by simp [bI, q1, q2])
            · rw [bI_1] at q2
              refine zv_go C okX9_isApart [] 2 ?_
              refine zv_callS C (m_isIn K (s := s) (v := b) (by omega) (by omega)) (zw_S inX9_isIn kX9_58 ⟨by decide, by decide⟩) [] rfl rfl (fun _ => Nat.le_refl _) rfl rfl (by decide) dzX9_isApart_39 (by decide) (by decide) rfl (fun _ _ => ?_)
              refine zv_to C rfl rfl (ws' := [mO A n cc, mZ K (A 1) Lf]) rfl ?_
              refine zv_go C okX9_isApart [] 1 ?_
              refine ⟨fun q3 => ?_, fun q3 => ?_⟩
              · rw [bI_0] at q3
                refine zv_go C okX9_isApart [60] 2 ?_
                exact join _ (by simp [bI, q1, q2, q3])
              · rw [bI_1] at q3
                refine zv_go C okX9_isApart [] 3 ?_
                refine zv_callV C (m_is K A n cc Lf (a := a) (b := b) (by omega)) (zw_V inX9_is kX9_46 ⟨by decide, by decide⟩) [0, 1] 0 rfl rfl rfl rfl (fun _ => Nat.le_refl _) rfl rfl (by decide) dzX9_isApart_49 (by decide) (by decide) rfl (fun _ _ => ?_)
                refine zv_to C rfl rfl (ws' := [mO A n cc, mZ K (A 1) Lf]) rfl ?_
                refine zv_go C okX9_isApart [] 1 ?_
                refine ⟨fun q4 => ?_, fun q4 => ?_⟩
                · rw [bI_1] at q4
                  refine zv_go C okX9_isApart [60] 1 ?_
                  exact join _ (by simp [bI, q1, q2, q3, q4])
                · rw [bI_0] at q4
                  refine zv_go C okX9_isApart [60] 2 ?_
                  exact join _ (by simp [bI, q1, q2, q3, q4])
      refine zv_go C okX9_isApart [15] 20 ?_
      refine ⟨rfl, fun h => absurd h (nI_ge (by omega) (by omega)), fun _ => ?_⟩
      exact zv_to C (lv' := [(0, .ref (A 0)), (1, .int (nI s)), (2, .int (bI (allB (fun a => allB (pisApart Lf s a) n) a && allB (pisApart Lf s a) 0))), (3, .int (nI a)), (4, .int (nI 0))]) (by rw [allB.eq_1, Bool.and_true] <;> rfl) rfl rfl (inner n 0 (by omega))
  refine zv_go C okX9_isApart [4] 20 ?_
  exact loop n 0 [] (by omega) (Or.inl rfl)
def pisIdeal (Lf : Nat → Bool) (s a b : Nat) : Bool := (!s.testBit b || (!Lf (16 * a + b) || s.testBit a))
set_option maxHeartbeats 4000000 in
set_option maxRecDepth 100000 in
theorem m_isIdeal {s : Nat} (hs : s < 2 ^ 14) (hn : n ≤ 14) : zD K yX9_isIdeal cX9_isIdeal 5 (some .boolean) (zq 1 0 0 22) [.ref (A 0), .int (nI s)] [mO A n cc, mZ K (A 1) Lf] (some (.int (bI (allB (fun a => allB (pisIdeal Lf s a) n)  n)))) [mO A n cc, mZ K (A 1) Lf] := by
  refine zo (by decide) (Nat.le_of_ble_eq_true rfl) fun x C R _ => ?_
  have loop : ∀ mm a (lv2 : zv_L), a + mm = n → (lv2 = [] ∨ ∃ z, lv2 = [(4, .int z)]) → zv_V x (gz K (zq 1 0 0 22) 5 cX9_isIdeal yX9_isIdeal.cls) 4 ([(0, .ref (A 0)), (1, .int (nI s)), (2, .int (bI (allB (fun a => allB (pisIdeal Lf s a) n) a))), (3, .int (nI a))] ++ lv2) [] [mO A n cc, mZ K (A 1) Lf] 0 0 := by
    intro mm
    induction mm with
    | zero =>
      intro a lv2 ha hl2
      have e : a = n := by omega
      refine zv_drop C [0, 1, 2, 3] (lv' := [(0, .ref (A 0)), (1, .int (nI s)), (2, .int (bI (allB (fun a => allB (pisIdeal Lf s a) n) a))), (3, .int (nI a))]) (by rcases hl2 with rfl | ⟨z, rfl⟩ <;> rfl) ?_
      subst e
      refine zv_go C okX9_isIdeal [] 20 ?_
      refine ⟨rfl, fun _ => ?_, fun h => absurd (nI_le (Nat.le_refl _) (by omega)) h⟩
      exact zr R () [0, 1] (some (.int _)) _ rfl rfl trivial rfl rfl (Nat.le_refl _) (Nat.le_refl _) ⟨bI_nar _, dzX9_isIdeal_74⟩
    | succ mm ih =>
      intro a lv2 ha hl2
      refine zv_drop C [0, 1, 2, 3] (lv' := [(0, .ref (A 0)), (1, .int (nI s)), (2, .int (bI (allB (fun a => allB (pisIdeal Lf s a) n) a))), (3, .int (nI a))]) (by rcases hl2 with rfl | ⟨z, rfl⟩ <;> rfl) ?_
      have inner : ∀ m2 b, b + m2 = n → zv_V x (gz K (zq 1 0 0 22) 5 cX9_isIdeal yX9_isIdeal.cls) 15 [(0, .ref (A 0)), (1, .int (nI s)), (2, .int (bI (allB (fun a => allB (pisIdeal Lf s a) n) a && allB (pisIdeal Lf s a) b))), (3, .int (nI a)), (4, .int (nI b))] [] [mO A n cc, mZ K (A 1) Lf] 0 0 := by
        intro m2
        induction m2 with
        | zero =>
          intro b hb
          have e : b = n := by omega
          subst e
          refine zv_go C okX9_isIdeal [4] 20 ?_
          refine ⟨rfl, fun _ => ?_, fun h => absurd (nI_le (Nat.le_refl _) (by omega)) h⟩
          exact zv_to C (lv' := [(0, .ref (A 0)), (1, .int (nI s)), (2, .int (bI (allB (fun a => allB (pisIdeal Lf s a) b) (a + 1)))), (3, .int (nI (a + 1))), (4, .int (nI b))]) (by rw [← nI_1] <;> rfl) rfl rfl (ih (a + 1) [_] (by omega) (Or.inr ⟨_, rfl⟩))
        | succ m2 ih2 =>
          intro b hb
          have hab : 16 * a + b < 256 ∧ 16 * b + a < 256 := by omega
          generalize hf : (allB (fun a => allB (pisIdeal Lf s a) n) a && allB (pisIdeal Lf s a) b) = f
          have join : ∀ c : Int32, c = bI (f && (!s.testBit b || (!Lf (16 * a + b) || s.testBit a))) → zv_V x (gz K (zq 1 0 0 22) 5 cX9_isIdeal yX9_isIdeal.cls) 60 [(0, .ref (A 0)), (1, .int (nI s)), (2, .int (bI (f))), (3, .int (nI a)), (4, .int (nI b))] [.int c] [mO A n cc, mZ K (A 1) Lf] 0 0 := by
            intro c hc
            subst hc
            refine zv_go C okX9_isIdeal [15] 20 ?_
            refine zv_to C (lv' := [(0, .ref (A 0)), (1, .int (nI s)), (2, .int (bI (allB (fun a => allB (pisIdeal Lf s a) n) a && allB (pisIdeal Lf s a) (b + 1)))), (3, .int (nI a)), (4, .int (nI (b + 1)))]) ?_ rfl rfl (ih2 (b + 1) (by omega))
            have e3 : (allB (fun a => allB (pisIdeal Lf s a) n) a && allB (pisIdeal Lf s a) (b + 1)) = (f && (!s.testBit b || (!Lf (16 * a + b) || s.testBit a))) := by
              rw [← hf, allB, ← Bool.and_assoc]
              rfl
            rw [e3, ← nI_1]
            rfl
          refine zv_go C okX9_isIdeal [] 4 ?_
          refine ⟨rfl, fun h => absurd h (nI_ge (by omega) (by omega)), fun _ => ?_⟩
          refine zv_go C okX9_isIdeal [] 2 ?_
          refine ⟨fun q1 => ?_, fun q1 => ?_⟩
          · rw [bI_0] at q1
            refine zv_go C okX9_isIdeal [60] 1 ?_
            exact join _ (by simp [bI, q1])
          · rw [bI_1] at q1
            refine zv_go C okX9_isIdeal [] 2 ?_
            refine zv_callS C (m_isIn K (s := s) (v := b) (by omega) (by omega)) (zw_S inX9_isIn kX9_58 ⟨by decide, by decide⟩) [] rfl rfl (fun _ => Nat.le_refl _) rfl rfl (by decide) dzX9_isIdeal_31 (by decide) (by decide) rfl (fun _ _ => ?_)
            refine zv_to C rfl rfl (ws' := [mO A n cc, mZ K (A 1) Lf]) rfl ?_
            refine zv_go C okX9_isIdeal [] 1 ?_
            refine ⟨fun q2 => ?_, fun q2 => ?_⟩
            · rw [bI_0] at q2
              refine zv_go C okX9_isIdeal [60] 2 ?_
              exact join _ (by simp [bI, q1, q2])
            · rw [bI_1] at q2
              refine zv_go C okX9_isIdeal [] 3 ?_
              refine zv_callV C (m_is K A n cc Lf (a := a) (b := b) (by omega)) (zw_V inX9_is kX9_46 ⟨by decide, by decide⟩) [0, 1] 0 rfl rfl rfl rfl (fun _ => Nat.le_refl _) rfl rfl (by decide) dzX9_isIdeal_41 (by decide) (by decide) rfl (fun _ _ => ?_)
              refine zv_to C rfl rfl (ws' := [mO A n cc, mZ K (A 1) Lf]) rfl ?_
              refine zv_go C okX9_isIdeal [] 1 ?_
              refine ⟨fun q3 => ?_, fun q3 => ?_⟩
              · rw [bI_0] at q3
                refine zv_go C okX9_isIdeal [60] 2 ?_
                exact join _ (by simp [bI, q1, q2, q3])
              · rw [bI_1] at q3
                refine zv_go C okX9_isIdeal [] 2 ?_
                refine zv_callS C (m_isIn K (s := s) (v := a) (by omega) (by omega)) (zw_S inX9_isIn kX9_58 ⟨by decide, by decide⟩) [] rfl rfl (fun _ => Nat.le_refl _) rfl rfl (by decide) dzX9_isIdeal_49 (by decide) (by decide) rfl (fun _ _ => ?_)
                refine zv_to C rfl rfl (ws' := [mO A n cc, mZ K (A 1) Lf]) rfl ?_
                refine zv_go C okX9_isIdeal [] 1 ?_
                refine ⟨fun q4 => ?_, fun q4 => ?_⟩
                · rw [bI_0] at q4
                  refine zv_go C okX9_isIdeal [60] 1 ?_
                  exact join _ (by simp [bI, q1, q2, q3, q4])
                · rw [bI_1] at q4
                  refine zv_go C okX9_isIdeal [60] 2 ?_
                  exact join _ (by simp [bI, q1, q2, q3, q4])
      refine zv_go C okX9_isIdeal [15] 20 ?_
      refine ⟨rfl, fun h => absurd h (nI_ge (by omega) (by omega)), fun _ => ?_⟩
      exact zv_to C (lv' := [(0, .ref (A 0)), (1, .int (nI s)), (2, .int (bI (allB (fun a => allB (pisIdeal Lf s a) n) a && allB (pisIdeal Lf s a) 0))), (3, .int (nI a)), (4, .int (nI 0))]) (by rw [allB.eq_1, Bool.and_true] <;> rfl) rfl rfl (inner n 0 (by omega))
  refine zv_go C okX9_isIdeal [4] 20 ?_
  exact loop n 0 [] (by omega) (Or.inl rfl)
def mayC (Lf : Nat → Bool) (n s v : Nat) : Bool := s.testBit v && allB (fun u => !(s.testBit u && Lf (16 * u + v))) n
set_option maxHeartbeats 4000000 in
set_option maxRecDepth 100000 in
theorem m_mayCome {v s : Nat} (hv : v < 16) (hs : s < 2 ^ 14) (hn : n ≤ 14) : zD K yX9_mayCome cX9_mayCome 5 (some .boolean) (zq 1 0 0 22) [.ref (A 0), .int (nI v), .int (nI s)] [mO A n cc, mZ K (A 1) Lf] (some (.int (bI (mayC Lf n s v)))) [mO A n cc, mZ K (A 1) Lf] := by
  refine zo (by decide) (Nat.le_of_ble_eq_true rfl) fun x C R _ => ?_
  have loop : ∀ mm u, u + mm = n → zv_V x (gz K (zq 1 0 0 22) 5 cX9_mayCome yX9_mayCome.cls) 9 [(0, .ref (A 0)), (1, .int (nI v)), (2, .int (nI s)), (3, .int (bI (s.testBit v && allB (fun u => !(s.testBit u && Lf (16 * u + v))) u))), (4, .int (nI u))] [] [mO A n cc, mZ K (A 1) Lf] 0 0 := by
    intro mm
    induction mm with
    | zero =>
      intro u hu
      have e : u = n := by omega
      subst e
      refine zv_go C okX9_mayCome [] 20 ?_
      refine ⟨rfl, fun _ => ?_, fun h => absurd (nI_le (Nat.le_refl _) (by omega)) h⟩
      exact zr R () [0, 1] (some (.int _)) _ rfl rfl trivial rfl rfl (Nat.le_refl _) (Nat.le_refl _) ⟨bI_nar _, dzX9_mayCome_54⟩
    | succ mm ih =>
      intro u hu
      generalize hf : (s.testBit v && allB (fun u => !(s.testBit u && Lf (16 * u + v))) u) = f
      have join : ∀ c : Int32, c = bI (f && !(s.testBit u && Lf (16 * u + v))) → zv_V x (gz K (zq 1 0 0 22) 5 cX9_mayCome yX9_mayCome.cls) 46 [(0, .ref (A 0)), (1, .int (nI v)), (2, .int (nI s)), (3, .int (bI (f))), (4, .int (nI u))] [.int c] [mO A n cc, mZ K (A 1) Lf] 0 0 := by
        intro c hc
        subst hc
        refine zv_go C okX9_mayCome [9] 20 ?_
        refine zv_to C (lv' := [(0, .ref (A 0)), (1, .int (nI v)), (2, .int (nI s)), (3, .int (bI (s.testBit v && allB (fun u => !(s.testBit u && Lf (16 * u + v))) (u + 1)))), (4, .int (nI (u + 1)))]) ?_ rfl rfl (ih (u + 1) (by omega))
        have e3 : (s.testBit v && allB (fun u => !(s.testBit u && Lf (16 * u + v))) (u + 1)) = (f && !(s.testBit u && Lf (16 * u + v))) := by
          rw [← hf, allB, ← Bool.and_assoc]
        rw [e3, ← nI_1]
        rfl
      refine zv_go C okX9_mayCome [] 4 ?_
      refine ⟨rfl, fun h => absurd h (nI_ge (by omega) (by omega)), fun _ => ?_⟩
      refine zv_go C okX9_mayCome [] 2 ?_
      refine ⟨fun q1 => ?_, fun q1 => ?_⟩
      · rw [bI_0] at q1
        refine zv_go C okX9_mayCome [46] 1 ?_
        exact join _ (by simp [bI, q1])
      · rw [bI_1] at q1
        refine zv_go C okX9_mayCome [] 2 ?_
        refine zv_callS C (m_isIn K (s := s) (v := u) (by omega) (by omega)) (zw_S inX9_isIn kX9_58 ⟨by decide, by decide⟩) [] rfl rfl (fun _ => Nat.le_refl _) rfl rfl (by decide) dzX9_mayCome_25 (by decide) (by decide) rfl (fun _ _ => ?_)
        refine zv_to C rfl rfl (ws' := [mO A n cc, mZ K (A 1) Lf]) rfl ?_
        refine zv_go C okX9_mayCome [] 1 ?_
        refine ⟨fun q2 => ?_, fun q2 => ?_⟩
        · rw [bI_0] at q2
          refine zv_go C okX9_mayCome [46] 2 ?_
          exact join _ (by simp [bI, q1, q2])
        · rw [bI_1] at q2
          refine zv_go C okX9_mayCome [] 3 ?_
          refine zv_callV C (m_is K A n cc Lf (a := u) (b := v) (by omega)) (zw_V inX9_is kX9_46 ⟨by decide, by decide⟩) [0, 1] 0 rfl rfl rfl rfl (fun _ => Nat.le_refl _) rfl rfl (by decide) dzX9_mayCome_35 (by decide) (by decide) rfl (fun _ _ => ?_)
          refine zv_to C rfl rfl (ws' := [mO A n cc, mZ K (A 1) Lf]) rfl ?_
          refine zv_go C okX9_mayCome [] 1 ?_
          refine ⟨fun q3 => ?_, fun q3 => ?_⟩
          · rw [bI_1] at q3
            refine zv_go C okX9_mayCome [46] 1 ?_
            exact join _ (by simp [bI, q1, q2, q3])
          · rw [bI_0] at q3
            refine zv_go C okX9_mayCome [46] 2 ?_
            exact join _ (by simp [bI, q1, q2, q3])
  refine zv_go C okX9_mayCome [] 2 ?_
  refine zv_callS C (m_isIn K (s := s) (v := v) (by omega) (by omega)) (zw_S inX9_isIn kX9_58 ⟨by decide, by decide⟩) [] rfl rfl (fun _ => Nat.le_refl _) rfl rfl (by decide) dzX9_mayCome_2 (by decide) (by decide) rfl (fun _ _ => ?_)
  refine zv_to C rfl rfl (ws' := [mO A n cc, mZ K (A 1) Lf]) rfl ?_
  refine zv_go C okX9_mayCome [9] 20 ?_
  exact zv_to C (lv' := [(0, .ref (A 0)), (1, .int (nI v)), (2, .int (nI s)), (3, .int (bI (s.testBit v && allB (fun u => !(s.testBit u && Lf (16 * u + v))) 0))), (4, .int (nI 0))]) (by rw [allB.eq_1, Bool.and_true] <;> rfl) rfl rfl (loop n 0 (by omega))
def qabove (Lf : Nat → Bool) (n s v : Nat) : Bool := allB (fun u => (!s.testBit u || (decide (u = v) || Lf (16 * u + v)))) n
set_option maxHeartbeats 4000000 in
set_option maxRecDepth 100000 in
theorem m_above {s : Nat} (hs : s < 2 ^ 14) (hn : n ≤ 14) : zD K yX9_above cX9_above 6 (some .int) (zq 1 0 0 22) [.ref (A 0), .int (nI s)] [mO A n cc, mZ K (A 1) Lf] (some (.int (nI (setB (qabove Lf n s) n)))) [mO A n cc, mZ K (A 1) Lf] := by
  refine zo (by decide) (Nat.le_of_ble_eq_true rfl) fun x C R _ => ?_
  have loop : ∀ mm v (lv2 : zv_L), v + mm = n → (lv2 = [] ∨ ∃ z w, lv2 = [(4, .int z), (5, .int w)]) → zv_V x (gz K (zq 1 0 0 22) 6 cX9_above yX9_above.cls) 4 ([(0, .ref (A 0)), (1, .int (nI s)), (2, .int (nI (setB (qabove Lf n s) v))), (3, .int (nI v))] ++ lv2) [] [mO A n cc, mZ K (A 1) Lf] 0 0 := by
    intro mm
    induction mm with
    | zero =>
      intro v lv2 hv hl2
      have e : v = n := by omega
      refine zv_drop C [0, 1, 2, 3] (lv' := [(0, .ref (A 0)), (1, .int (nI s)), (2, .int (nI (setB (qabove Lf n s) v))), (3, .int (nI v))]) (by rcases hl2 with rfl | ⟨z, w, rfl⟩ <;> rfl) ?_
      subst e
      refine zv_go C okX9_above [] 20 ?_
      refine ⟨rfl, fun _ => ?_, fun h => absurd (nI_le (Nat.le_refl _) (by omega)) h⟩
      exact zr R () [0, 1] (some (.int _)) _ rfl rfl trivial rfl rfl (Nat.le_refl _) (Nat.le_refl _) dzX9_above_92
    | succ mm ih =>
      intro v lv2 hv hl2
      refine zv_drop C [0, 1, 2, 3] (lv' := [(0, .ref (A 0)), (1, .int (nI s)), (2, .int (nI (setB (qabove Lf n s) v))), (3, .int (nI v))]) (by rcases hl2 with rfl | ⟨z, w, rfl⟩ <;> rfl) ?_
      have inner : ∀ m2 u, u + m2 = n → zv_V x (gz K (zq 1 0 0 22) 6 cX9_above yX9_above.cls) 18 [(0, .ref (A 0)), (1, .int (nI s)), (2, .int (nI (setB (qabove Lf n s) v))), (3, .int (nI v)), (4, .int (bI (allB (fun u => (!s.testBit u || (decide (u = v) || Lf (16 * u + v)))) u))), (5, .int (nI u))] [] [mO A n cc, mZ K (A 1) Lf] 0 0 := by
        intro m2
        induction m2 with
        | zero =>
          intro u hu
          have e : n = u := by omega
          subst e
          generalize hg : (allB (fun u => (!s.testBit u || (decide (u = v) || Lf (16 * u + v)))) n) = g
          have hq : qabove Lf n s v = g := hg
          refine zv_go C okX9_above [4] 30 ?_
          refine ⟨rfl, fun _ => ⟨fun h => ?_, fun h => ?_⟩, fun h => absurd (nI_le (Nat.le_refl _) (by omega)) h⟩
          · rw [bI_0] at h
            refine zv_to C (lv' := [(0, .ref (A 0)), (1, .int (nI s)), (2, .int (nI (setB (qabove Lf n s) (v + 1)))), (3, .int (nI (v + 1))), (4, .int (bI (g))), (5, .int (nI n))]) ?_ rfl rfl (ih (v + 1) [_, _] (by omega) (Or.inr ⟨_, _, rfl⟩))
            rw [setB, hq, if_neg (by rw [h]; decide), ← nI_1, ← nb_or]
            rfl
          · rw [bI_1] at h
            refine zv_to C (lv' := [(0, .ref (A 0)), (1, .int (nI s)), (2, .int (nI (setB (qabove Lf n s) (v + 1)))), (3, .int (nI (v + 1))), (4, .int (bI (g))), (5, .int (nI n))]) ?_ rfl rfl (ih (v + 1) [_, _] (by omega) (Or.inr ⟨_, _, rfl⟩))
            rw [setB, hq, if_pos h, ← nI_1, ← nb_or, ← nb_1s v (by omega)]
            rfl
        | succ m2 ih2 =>
          intro u hu
          generalize hf : (allB (fun u => (!s.testBit u || (decide (u = v) || Lf (16 * u + v)))) u) = f
          have join : ∀ c : Int32, c = bI (f && (!s.testBit u || (decide (u = v) || Lf (16 * u + v)))) → zv_V x (gz K (zq 1 0 0 22) 6 cX9_above yX9_above.cls) 62 [(0, .ref (A 0)), (1, .int (nI s)), (2, .int (nI (setB (qabove Lf n s) v))), (3, .int (nI v)), (4, .int (bI (f))), (5, .int (nI u))] [.int c] [mO A n cc, mZ K (A 1) Lf] 0 0 := by
            intro c hc
            subst hc
            refine zv_go C okX9_above [18] 20 ?_
            refine zv_to C (lv' := [(0, .ref (A 0)), (1, .int (nI s)), (2, .int (nI (setB (qabove Lf n s) v))), (3, .int (nI v)), (4, .int (bI (allB (fun u => (!s.testBit u || (decide (u = v) || Lf (16 * u + v)))) (u + 1)))), (5, .int (nI (u + 1)))]) ?_ rfl rfl (ih2 (u + 1) (by omega))
            have e3 : (allB (fun u => (!s.testBit u || (decide (u = v) || Lf (16 * u + v)))) (u + 1)) = (f && (!s.testBit u || (decide (u = v) || Lf (16 * u + v)))) := by
              rw [← hf, allB]
            rw [e3, ← nI_1]
            rfl
          refine zv_go C okX9_above [] 4 ?_
          refine ⟨rfl, fun h => absurd h (nI_ge (by omega) (by omega)), fun _ => ?_⟩
          refine zv_go C okX9_above [] 2 ?_
          refine ⟨fun q1 => ?_, fun q1 => ?_⟩
          · rw [bI_0] at q1
            refine zv_go C okX9_above [62] 1 ?_
            exact join _ (by simp [bI, q1])
          · rw [bI_1] at q1
            refine zv_go C okX9_above [] 2 ?_
            refine zv_callS C (m_isIn K (s := s) (v := u) (by omega) (by omega)) (zw_S inX9_isIn kX9_58 ⟨by decide, by decide⟩) [] rfl rfl (fun _ => Nat.le_refl _) rfl rfl (by decide) dzX9_above_35 (by decide) (by decide) rfl (fun _ _ => ?_)
            refine zv_to C rfl rfl (ws' := [mO A n cc, mZ K (A 1) Lf]) rfl ?_
            refine zv_go C okX9_above [] 1 ?_
            refine ⟨fun q2 => ?_, fun q2 => ?_⟩
            · rw [bI_0] at q2
              refine zv_go C okX9_above [62] 2 ?_
              exact join _ (by simp [bI, q1, q2])
            · rw [bI_1] at q2
              refine zv_go C okX9_above [] 3 ?_
              refine ⟨fun q3 => ?_, fun q3 => ?_⟩
              · rw [nb_inj (by omega) (by omega)] at q3
                refine zv_go C okX9_above [62] 2 ?_
                exact join _ (by simp [bI, q1, q2, q3])
              · rw [nb_inj (by omega) (by omega)] at q3
                refine zv_go C okX9_above [] 3 ?_
                refine zv_callV C (m_is K A n cc Lf (a := u) (b := v) (by omega)) (zw_V inX9_is kX9_46 ⟨by decide, by decide⟩) [0, 1] 0 rfl rfl rfl rfl (fun _ => Nat.le_refl _) rfl rfl (by decide) dzX9_above_51 (by decide) (by decide) rfl (fun _ _ => ?_)
                refine zv_to C rfl rfl (ws' := [mO A n cc, mZ K (A 1) Lf]) rfl ?_
                refine zv_go C okX9_above [] 1 ?_
                refine ⟨fun q4 => ?_, fun q4 => ?_⟩
                · rw [bI_0] at q4
                  refine zv_go C okX9_above [62] 1 ?_
                  exact join _ (by simp [bI, q1, q2, q3, q4])
                · rw [bI_1] at q4
                  refine zv_go C okX9_above [62] 2 ?_
                  exact join _ (by simp [bI, q1, q2, q3, q4])
      refine zv_go C okX9_above [18] 20 ?_
      refine ⟨rfl, fun h => absurd h (nI_ge (by omega) (by omega)), fun _ => ?_⟩
      exact inner n 0 (by omega)
  refine zv_go C okX9_above [4] 20 ?_
  exact loop n 0 [] (by omega) (Or.inl rfl)
def qbelow (Lf : Nat → Bool) (n s v : Nat) : Bool := allB (fun u => (!s.testBit u || (decide (u = v) || Lf (16 * v + u)))) n
set_option maxHeartbeats 4000000 in
set_option maxRecDepth 100000 in
theorem m_below {s : Nat} (hs : s < 2 ^ 14) (hn : n ≤ 14) : zD K yX9_below cX9_below 6 (some .int) (zq 1 0 0 22) [.ref (A 0), .int (nI s)] [mO A n cc, mZ K (A 1) Lf] (some (.int (nI (setB (qbelow Lf n s) n)))) [mO A n cc, mZ K (A 1) Lf] := by
  refine zo (by decide) (Nat.le_of_ble_eq_true rfl) fun x C R _ => ?_
  have loop : ∀ mm v (lv2 : zv_L), v + mm = n → (lv2 = [] ∨ ∃ z w, lv2 = [(4, .int z), (5, .int w)]) → zv_V x (gz K (zq 1 0 0 22) 6 cX9_below yX9_below.cls) 4 ([(0, .ref (A 0)), (1, .int (nI s)), (2, .int (nI (setB (qbelow Lf n s) v))), (3, .int (nI v))] ++ lv2) [] [mO A n cc, mZ K (A 1) Lf] 0 0 := by
    intro mm
    induction mm with
    | zero =>
      intro v lv2 hv hl2
      have e : v = n := by omega
      refine zv_drop C [0, 1, 2, 3] (lv' := [(0, .ref (A 0)), (1, .int (nI s)), (2, .int (nI (setB (qbelow Lf n s) v))), (3, .int (nI v))]) (by rcases hl2 with rfl | ⟨z, w, rfl⟩ <;> rfl) ?_
      subst e
      refine zv_go C okX9_below [] 20 ?_
      refine ⟨rfl, fun _ => ?_, fun h => absurd (nI_le (Nat.le_refl _) (by omega)) h⟩
      exact zr R () [0, 1] (some (.int _)) _ rfl rfl trivial rfl rfl (Nat.le_refl _) (Nat.le_refl _) dzX9_below_92
    | succ mm ih =>
      intro v lv2 hv hl2
      refine zv_drop C [0, 1, 2, 3] (lv' := [(0, .ref (A 0)), (1, .int (nI s)), (2, .int (nI (setB (qbelow Lf n s) v))), (3, .int (nI v))]) (by rcases hl2 with rfl | ⟨z, w, rfl⟩ <;> rfl) ?_
      have inner : ∀ m2 u, u + m2 = n → zv_V x (gz K (zq 1 0 0 22) 6 cX9_below yX9_below.cls) 18 [(0, .ref (A 0)), (1, .int (nI s)), (2, .int (nI (setB (qbelow Lf n s) v))), (3, .int (nI v)), (4, .int (bI (allB (fun u => (!s.testBit u || (decide (u = v) || Lf (16 * v + u)))) u))), (5, .int (nI u))] [] [mO A n cc, mZ K (A 1) Lf] 0 0 := by
        intro m2
        induction m2 with
        | zero =>
          intro u hu
          have e : n = u := by omega
          subst e
          generalize hg : (allB (fun u => (!s.testBit u || (decide (u = v) || Lf (16 * v + u)))) n) = g
          have hq : qbelow Lf n s v = g := hg
          refine zv_go C okX9_below [4] 30 ?_
          refine ⟨rfl, fun _ => ⟨fun h => ?_, fun h => ?_⟩, fun h => absurd (nI_le (Nat.le_refl _) (by omega)) h⟩
          · rw [bI_0] at h
            refine zv_to C (lv' := [(0, .ref (A 0)), (1, .int (nI s)), (2, .int (nI (setB (qbelow Lf n s) (v + 1)))), (3, .int (nI (v + 1))), (4, .int (bI (g))), (5, .int (nI n))]) ?_ rfl rfl (ih (v + 1) [_, _] (by omega) (Or.inr ⟨_, _, rfl⟩))
            rw [setB, hq, if_neg (by rw [h]; decide), ← nI_1, ← nb_or]
            rfl
          · rw [bI_1] at h
            refine zv_to C (lv' := [(0, .ref (A 0)), (1, .int (nI s)), (2, .int (nI (setB (qbelow Lf n s) (v + 1)))), (3, .int (nI (v + 1))), (4, .int (bI (g))), (5, .int (nI n))]) ?_ rfl rfl (ih (v + 1) [_, _] (by omega) (Or.inr ⟨_, _, rfl⟩))
            rw [setB, hq, if_pos h, ← nI_1, ← nb_or, ← nb_1s v (by omega)]
            rfl
        | succ m2 ih2 =>
          intro u hu
          generalize hf : (allB (fun u => (!s.testBit u || (decide (u = v) || Lf (16 * v + u)))) u) = f
          have join : ∀ c : Int32, c = bI (f && (!s.testBit u || (decide (u = v) || Lf (16 * v + u)))) → zv_V x (gz K (zq 1 0 0 22) 6 cX9_below yX9_below.cls) 62 [(0, .ref (A 0)), (1, .int (nI s)), (2, .int (nI (setB (qbelow Lf n s) v))), (3, .int (nI v)), (4, .int (bI (f))), (5, .int (nI u))] [.int c] [mO A n cc, mZ K (A 1) Lf] 0 0 := by
            intro c hc
            subst hc
            refine zv_go C okX9_below [18] 20 ?_
            refine zv_to C (lv' := [(0, .ref (A 0)), (1, .int (nI s)), (2, .int (nI (setB (qbelow Lf n s) v))), (3, .int (nI v)), (4, .int (bI (allB (fun u => (!s.testBit u || (decide (u = v) || Lf (16 * v + u)))) (u + 1)))), (5, .int (nI (u + 1)))]) ?_ rfl rfl (ih2 (u + 1) (by omega))
            have e3 : (allB (fun u => (!s.testBit u || (decide (u = v) || Lf (16 * v + u)))) (u + 1)) = (f && (!s.testBit u || (decide (u = v) || Lf (16 * v + u)))) := by
              rw [← hf, allB]
            rw [e3, ← nI_1]
            rfl
          refine zv_go C okX9_below [] 4 ?_
          refine ⟨rfl, fun h => absurd h (nI_ge (by omega) (by omega)), fun _ => ?_⟩
          refine zv_go C okX9_below [] 2 ?_
          refine ⟨fun q1 => ?_, fun q1 => ?_⟩
          · rw [bI_0] at q1
            refine zv_go C okX9_below [62] 1 ?_
            exact join _ (by simp [bI, q1])
          · rw [bI_1] at q1
            refine zv_go C okX9_below [] 2 ?_
            refine zv_callS C (m_isIn K (s := s) (v := u) (by omega) (by omega)) (zw_S inX9_isIn kX9_58 ⟨by decide, by decide⟩) [] rfl rfl (fun _ => Nat.le_refl _) rfl rfl (by decide) dzX9_below_35 (by decide) (by decide) rfl (fun _ _ => ?_)
            refine zv_to C rfl rfl (ws' := [mO A n cc, mZ K (A 1) Lf]) rfl ?_
            refine zv_go C okX9_below [] 1 ?_
            refine ⟨fun q2 => ?_, fun q2 => ?_⟩
            · rw [bI_0] at q2
              refine zv_go C okX9_below [62] 2 ?_
              exact join _ (by simp [bI, q1, q2])
            · rw [bI_1] at q2
              refine zv_go C okX9_below [] 3 ?_
              refine ⟨fun q3 => ?_, fun q3 => ?_⟩
              · rw [nb_inj (by omega) (by omega)] at q3
                refine zv_go C okX9_below [62] 2 ?_
                exact join _ (by simp [bI, q1, q2, q3])
              · rw [nb_inj (by omega) (by omega)] at q3
                refine zv_go C okX9_below [] 3 ?_
                refine zv_callV C (m_is K A n cc Lf (a := v) (b := u) (by omega)) (zw_V inX9_is kX9_46 ⟨by decide, by decide⟩) [0, 1] 0 rfl rfl rfl rfl (fun _ => Nat.le_refl _) rfl rfl (by decide) dzX9_below_51 (by decide) (by decide) rfl (fun _ _ => ?_)
                refine zv_to C rfl rfl (ws' := [mO A n cc, mZ K (A 1) Lf]) rfl ?_
                refine zv_go C okX9_below [] 1 ?_
                refine ⟨fun q4 => ?_, fun q4 => ?_⟩
                · rw [bI_0] at q4
                  refine zv_go C okX9_below [62] 1 ?_
                  exact join _ (by simp [bI, q1, q2, q3, q4])
                · rw [bI_1] at q4
                  refine zv_go C okX9_below [62] 2 ?_
                  exact join _ (by simp [bI, q1, q2, q3, q4])
      refine zv_go C okX9_below [18] 20 ?_
      refine ⟨rfl, fun h => absurd h (nI_ge (by omega) (by omega)), fun _ => ?_⟩
      exact inner n 0 (by omega)
  refine zv_go C okX9_below [4] 20 ?_
  exact loop n 0 [] (by omega) (Or.inl rfl)
def qcovers (Lf : Nat → Bool) (n s v : Nat) : Bool := Lf (16 * s + v) && allB (fun u => !(Lf (16 * s + u) && Lf (16 * u + v))) n
set_option maxHeartbeats 4000000 in
set_option maxRecDepth 100000 in
theorem m_covers {s : Nat} (hs : s < n) (hn : n ≤ 14) : zD K yX9_covers cX9_covers 6 (some .int) (zq 1 0 0 22) [.ref (A 0), .int (nI s)] [mO A n cc, mZ K (A 1) Lf] (some (.int (nI (setB (qcovers Lf n s) n)))) [mO A n cc, mZ K (A 1) Lf] := by
  refine zo (by decide) (Nat.le_of_ble_eq_true rfl) fun x C R _ => ?_
  have loop : ∀ mm v (lv2 : zv_L), v + mm = n → (lv2 = [] ∨ ∃ z w, lv2 = [(4, .int z), (5, .int w)]) → zv_V x (gz K (zq 1 0 0 22) 6 cX9_covers yX9_covers.cls) 14 ([(0, .ref (A 0)), (1, .int (nI s)), (2, .int (nI (setB (qcovers Lf n s) v))), (3, .int (nI v))] ++ lv2) [] [mO A n cc, mZ K (A 1) Lf] 0 0 := by
    intro mm
    induction mm with
    | zero =>
      intro v lv2 hv hl2
      have e : v = n := by omega
      refine zv_drop C [0, 1, 2, 3] (lv' := [(0, .ref (A 0)), (1, .int (nI s)), (2, .int (nI (setB (qcovers Lf n s) v))), (3, .int (nI v))]) (by rcases hl2 with rfl | ⟨z, w, rfl⟩ <;> rfl) ?_
      subst e
      refine zv_go C okX9_covers [] 20 ?_
      refine ⟨rfl, fun _ => ?_, fun h => absurd (nI_le (Nat.le_refl _) (by omega)) h⟩
      exact zr R () [0, 1] (some (.int _)) _ rfl rfl trivial rfl rfl (Nat.le_refl _) (Nat.le_refl _) dzX9_covers_102
    | succ mm ih =>
      intro v lv2 hv hl2
      refine zv_drop C [0, 1, 2, 3] (lv' := [(0, .ref (A 0)), (1, .int (nI s)), (2, .int (nI (setB (qcovers Lf n s) v))), (3, .int (nI v))]) (by rcases hl2 with rfl | ⟨z, w, rfl⟩ <;> rfl) ?_
      have inner : ∀ m2 u, u + m2 = n → zv_V x (gz K (zq 1 0 0 22) 6 cX9_covers yX9_covers.cls) 33 [(0, .ref (A 0)), (1, .int (nI s)), (2, .int (nI (setB (qcovers Lf n s) v))), (3, .int (nI v)), (4, .int (bI (Lf (16 * s + v) && allB (fun u => !(Lf (16 * s + u) && Lf (16 * u + v))) u))), (5, .int (nI u))] [] [mO A n cc, mZ K (A 1) Lf] 0 0 := by
        intro m2
        induction m2 with
        | zero =>
          intro u hu
          have e : n = u := by omega
          subst e
          generalize hg : (Lf (16 * s + v) && allB (fun u => !(Lf (16 * s + u) && Lf (16 * u + v))) n) = g
          have hq : qcovers Lf n s v = g := hg
          refine zv_go C okX9_covers [14] 30 ?_
          refine ⟨rfl, fun _ => ⟨fun h => ?_, fun h => ?_⟩, fun h => absurd (nI_le (Nat.le_refl _) (by omega)) h⟩
          · rw [bI_0] at h
            refine zv_to C (lv' := [(0, .ref (A 0)), (1, .int (nI s)), (2, .int (nI (setB (qcovers Lf n s) (v + 1)))), (3, .int (nI (v + 1))), (4, .int (bI (g))), (5, .int (nI n))]) ?_ rfl rfl (ih (v + 1) [_, _] (by omega) (Or.inr ⟨_, _, rfl⟩))
            rw [setB, hq, if_neg (by rw [h]; decide), ← nI_1, ← nb_or]
            rfl
          · rw [bI_1] at h
            refine zv_to C (lv' := [(0, .ref (A 0)), (1, .int (nI s)), (2, .int (nI (setB (qcovers Lf n s) (v + 1)))), (3, .int (nI (v + 1))), (4, .int (bI (g))), (5, .int (nI n))]) ?_ rfl rfl (ih (v + 1) [_, _] (by omega) (Or.inr ⟨_, _, rfl⟩))
            rw [setB, hq, if_pos h, ← nI_1, ← nb_or, ← nb_1s v (by omega)]
            rfl
        | succ m2 ih2 =>
          intro u hu
          generalize hf : (Lf (16 * s + v) && allB (fun u => !(Lf (16 * s + u) && Lf (16 * u + v))) u) = f
          have join : ∀ c : Int32, c = bI (f && !(Lf (16 * s + u) && Lf (16 * u + v))) → zv_V x (gz K (zq 1 0 0 22) 6 cX9_covers yX9_covers.cls) 72 [(0, .ref (A 0)), (1, .int (nI s)), (2, .int (nI (setB (qcovers Lf n s) v))), (3, .int (nI v)), (4, .int (bI (f))), (5, .int (nI u))] [.int c] [mO A n cc, mZ K (A 1) Lf] 0 0 := by
            intro c hc
            subst hc
            refine zv_go C okX9_covers [33] 20 ?_
            refine zv_to C (lv' := [(0, .ref (A 0)), (1, .int (nI s)), (2, .int (nI (setB (qcovers Lf n s) v))), (3, .int (nI v)), (4, .int (bI (Lf (16 * s + v) && allB (fun u => !(Lf (16 * s + u) && Lf (16 * u + v))) (u + 1)))), (5, .int (nI (u + 1)))]) ?_ rfl rfl (ih2 (u + 1) (by omega))
            have e3 : (Lf (16 * s + v) && allB (fun u => !(Lf (16 * s + u) && Lf (16 * u + v))) (u + 1)) = (f && !(Lf (16 * s + u) && Lf (16 * u + v))) := by
              rw [← hf, allB, ← Bool.and_assoc]
            rw [e3, ← nI_1]
            rfl
          refine zv_go C okX9_covers [] 4 ?_
          refine ⟨rfl, fun h => absurd h (nI_ge (by omega) (by omega)), fun _ => ?_⟩
          refine zv_go C okX9_covers [] 2 ?_
          refine ⟨fun q1 => ?_, fun q1 => ?_⟩
          · rw [bI_0] at q1
            refine zv_go C okX9_covers [72] 1 ?_
            exact join _ (by simp [bI, q1])
          · rw [bI_1] at q1
            refine zv_go C okX9_covers [] 3 ?_
            refine zv_callV C (m_is K A n cc Lf (a := s) (b := u) (by omega)) (zw_V inX9_is kX9_46 ⟨by decide, by decide⟩) [0, 1] 0 rfl rfl rfl rfl (fun _ => Nat.le_refl _) rfl rfl (by decide) dzX9_covers_51 (by decide) (by decide) rfl (fun _ _ => ?_)
            refine zv_to C rfl rfl (ws' := [mO A n cc, mZ K (A 1) Lf]) rfl ?_
            refine zv_go C okX9_covers [] 1 ?_
            refine ⟨fun q2 => ?_, fun q2 => ?_⟩
            · rw [bI_0] at q2
              refine zv_go C okX9_covers [72] 2 ?_
              exact join _ (by simp [bI, q1, q2])
            · rw [bI_1] at q2
              refine zv_go C okX9_covers [] 3 ?_
              refine zv_callV C (m_is K A n cc Lf (a := u) (b := v) (by omega)) (zw_V inX9_is kX9_46 ⟨by decide, by decide⟩) [0, 1] 0 rfl rfl rfl rfl (fun _ => Nat.le_refl _) rfl rfl (by decide) dzX9_covers_61 (by decide) (by decide) rfl (fun _ _ => ?_)
              refine zv_to C rfl rfl (ws' := [mO A n cc, mZ K (A 1) Lf]) rfl ?_
              refine zv_go C okX9_covers [] 1 ?_
              refine ⟨fun q3 => ?_, fun q3 => ?_⟩
              · rw [bI_1] at q3
                refine zv_go C okX9_covers [72] 1 ?_
                exact join _ (by simp [bI, q1, q2, q3])
              · rw [bI_0] at q3
                refine zv_go C okX9_covers [72] 2 ?_
                exact join _ (by simp [bI, q1, q2, q3])
      refine zv_go C okX9_covers [] 7 ?_
      refine ⟨rfl, fun h => absurd h (nI_ge (by omega) (by omega)), fun _ => ?_⟩
      refine zv_callV C (m_is K A n cc Lf (a := s) (b := v) (by omega)) (zw_V inX9_is kX9_46 ⟨by decide, by decide⟩) [0, 1] 0 rfl rfl rfl rfl (fun _ => Nat.le_refl _) rfl rfl (by decide) dzX9_covers_25 (by decide) (by decide) rfl (fun _ _ => ?_)
      refine zv_to C rfl rfl (ws' := [mO A n cc, mZ K (A 1) Lf]) rfl ?_
      refine zv_go C okX9_covers [33] 20 ?_
      exact zv_to C (lv' := [(0, .ref (A 0)), (1, .int (nI s)), (2, .int (nI (setB (qcovers Lf n s) v))), (3, .int (nI v)), (4, .int (bI (Lf (16 * s + v) && allB (fun u => !(Lf (16 * s + u) && Lf (16 * u + v))) 0))), (5, .int (nI 0))]) (by rw [allB.eq_1, Bool.and_true] <;> rfl) rfl rfl (inner n 0 (by omega))
  refine zv_go C okX9_covers [] 2 ?_
  refine zv_callV C (m_has K A n cc (nI s)) (zw_V inX9_has kX9_42 ⟨by decide, by decide⟩) [0] 0 rfl rfl rfl rfl (fun _ => Nat.le_refl _) rfl rfl (by decide) dzX9_covers_2 (by decide) (by decide) rfl (fun _ _ => ?_)
  refine zv_to C rfl rfl (ws' := [mO A n cc, mZ K (A 1) Lf]) rfl ?_
  refine zv_go C okX9_covers [14] 20 ?_
  refine ⟨fun h => ?_, fun h => ?_⟩
  · exact loop n 0 [] (by omega) (Or.inl rfl)
  · rw [bI_0, hasb_nI (by omega) (by omega), decide_eq_false_iff_not] at h
    exact absurd hs h
end MB
