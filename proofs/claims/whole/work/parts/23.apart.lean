/-! WIDEST APART: choose, asSet -/
abbrev wW (K : zK) (w m o b a p : Nat) (bl ab : Nat → Nat) (n : Nat) (ver : Int32) (q : zS) (ch seen : Int32) : va_W := (w, .inr (7, [.ref o, .ref m, .int ch, .int seen])) :: wM K m o b a p bl ab n ver q.1 q.2.1 q.2.2
/-- the run from thing k - 1 down: what is open, how many are wanted, what is chosen -/
def chS (bl ab : Nat → Nat) (n : Nat) : Nat → Nat → Int32 → Nat → Nat
  | 0, _, _, ch => ch
  | k + 1, op, wn, ch => if op.testBit k = true then (if wdt ab n (ndf op (2 ^ k)) < wn then chS bl ab n k (ndf (ndf op (2 ^ k)) (bl k ||| ab k)) (wn + (-1)) (ch ||| 2 ^ k) else chS bl ab n k (ndf op (2 ^ k)) wn ch) else chS bl ab n k op wn ch
def capt (bl ab : Nat → Nat) (n : Nat) : Nat := chS bl ab n n (2 ^ n - 1) (wdt ab n (2 ^ n - 1)) 0
theorem nb_all_lt {n : Nat} (hn : n ≤ 14) : 2 ^ n - 1 < 2 ^ 14 := by
  have h : 2 ^ n ≤ 2 ^ 14 := Nat.pow_le_pow_right (by decide) hn
  have h0 : 0 < 2 ^ n := Nat.two_pow_pos n
  omega
set_option maxHeartbeats 4000000 in
set_option maxRecDepth 100000 in
theorem c_choose (K : zK) (w m o b a p : Nat) (bl ab : Nat → Nat) (n : Nat) (ver : Int32) (q : zS) (ch seen : Int32) (hn : n ≤ 14) (ha : ∀ j, ab j < 2 ^ 14) :
    zM (S := zS) K yX7_choose cX7_choose 4 none (zq 18 0 0 413) [.ref w] (wW K w m o b a p bl ab n ver q ch seen) (fun _ => True) (fun _ => none) (fun u => wW K w m o b a p bl ab n ver u (nI (capt bl ab n)) seen) := by
  refine zo (by decide) (Nat.le_of_ble_eq_true rfl) fun x C R _ => ?_
  have loop : ∀ k (op : Nat) (wn : Int32) (c : Nat) (q : zS), k ≤ n → op < 2 ^ 14 → chS bl ab n k op wn c = capt bl ab n → zv_V x (gz K (zq 18 0 0 413) 4 cX7_choose yX7_choose.cls) 32 [(0, .ref w), (1, .int (nI op)), (2, .int wn), (3, .int (nI k - 1))] [] (wW K w m o b a p bl ab n ver q (nI c) seen) 0 0 := by
    intro k
    induction k with
    | zero =>
      intro op wn c q _ _ he
      refine zv_go C okX7_choose [] 20 ?_
      refine ⟨fun _ => ?_, fun h => absurd (by decide) h⟩
      exact zr R q [0, 1, 2, 3, 4, 5] none _ rfl (by rw [← he] <;> rfl) trivial rfl rfl (Nat.le_refl _) (Nat.le_refl _) dzX7_choose_109
    | succ k ih =>
      intro op wn c q hk hop he
      have ek : nI (k + 1) - 1 = nI k := nI_pred k
      have ek2 : nI k + (-1) = nI k - 1 := by rw [Int32.sub_eq_add_neg]
      refine zv_to C (lv' := [(0, .ref w), (1, .int (nI op)), (2, .int wn), (3, .int (nI k))]) (by rw [ek]) rfl rfl ?_
      have hop1 : ndf op (2 ^ k) < 2 ^ 14 := Nat.lt_of_le_of_lt (ndf_le _ _) hop
      refine zv_go C okX7_choose [32] 30 ?_
      refine ⟨fun h => absurd h (nI_pos (by omega)), fun _ => ⟨fun h => ?_, fun h => ⟨rfl, ?_⟩⟩⟩
      · rw [nb_t0 (Nat.lt_trans hop (by decide)) (by omega)] at h
        unfold chS at he
        rw [if_neg (by rw [h]; decide)] at he
        exact zv_to C (lv' := [(0, .ref w), (1, .int (nI op)), (2, .int wn), (3, .int (nI k - 1))]) (by rw [← ek2] <;> rfl) rfl rfl (ih op wn c q (by omega) hop he)
      · rw [nb_t1 (Nat.lt_trans hop (by decide)) (by omega)] at h
        unfold chS at he
        rw [if_pos h] at he
        refine zv_to C (lv' := [(0, .ref w), (1, .int (nI (ndf op (2 ^ k)))), (2, .int wn), (3, .int (nI k))]) (by rw [← nb_not, ← nb_1s k (by omega)] <;> rfl) (st' := [.int (nI (ndf op (2 ^ k))), .ref m]) (by rw [← nb_not, ← nb_1s k (by omega)] <;> rfl) rfl ?_
        refine zv_callV C (c_widthOf K m o b a p bl ab n ver q hop1 hn ha) (zw_V inX2_widthOf kX7_38 ⟨by decide, by decide⟩) [1, 2, 3, 4, 5] 1 rfl rfl rfl rfl (fun _ => Nat.le_refl _) rfl rfl (by decide) dzX7_choose_57 (by decide) (by decide) rfl (fun u _ => ?_)
        refine zv_to C rfl rfl (ws' := wW K w m o b a p bl ab n ver u (nI c) seen) rfl ?_
        refine zv_go C okX7_choose [32] 50 ?_
        refine ⟨fun h2 => ?_, fun h2 => ⟨rfl, rfl, rfl, rfl, ⟨rfl, rfl⟩, vp_in_nI (by omega) (by decide), rfl, rfl, ⟨rfl, rfl⟩, vp_in_nI (by omega) (by decide), ?_⟩⟩
        · rw [if_neg (Int32.not_lt.mpr h2)] at he
          exact zv_to C (lv' := [(0, .ref w), (1, .int (nI (ndf op (2 ^ k)))), (2, .int wn), (3, .int (nI k - 1))]) (by rw [← ek2] <;> rfl) rfl rfl (ih _ wn c u (by omega) hop1 he)
        · rw [if_pos (Int32.not_le.mp h2)] at he
          refine zv_to C (lv' := [(0, .ref w), (1, .int (nI (ndf (ndf op (2 ^ k)) (bl k ||| ab k)))), (2, .int (wn + (-1))), (3, .int (nI k - 1))]) ?_ rfl (ws' := wW K w m o b a p bl ab n ver u (nI (c ||| 2 ^ k)) seen) ?_ (ih _ _ _ u (by omega) (Nat.lt_of_le_of_lt (ndf_le _ _) hop1) he)
          · have ec : (nI k).toNatClampNeg = k := nI_clamp (by omega)
            show [(0, Value.ref w), (1, .int (nI (ndf op (2 ^ k)) &&& ((nI (bl (nI k).toNatClampNeg) ||| nI (ab (nI k).toNatClampNeg)) ^^^ (-1)))), (2, .int (wn + (-1))), (3, .int (nI k + (-1)))] = _
            rw [ec, nb_or, nb_not, ek2]
          · rw [← nb_or, ← nb_1s k (by omega)]
            rfl
  refine zv_go C okX7_choose [] 2 ?_
  refine ⟨rfl, ?_⟩
  refine zv_callV C (c_all K o b a bl ab n ver hn) (zw_V inX4_all kX7_34 ⟨by decide, by decide⟩) [2, 3, 4] 2 rfl rfl rfl rfl (fun _ => Nat.le_refl _) rfl rfl (by decide) dzX7_choose_4 (by decide) (by decide) rfl (fun _ _ => ?_)
  refine zv_to C rfl rfl (ws' := wW K w m o b a p bl ab n ver q ch seen) rfl ?_
  refine zv_go C okX7_choose [] 4 ?_
  refine ⟨rfl, ?_⟩
  refine zv_callV C (c_widthOf K m o b a p bl ab n ver q (nb_all_lt hn) hn ha) (zw_V inX2_widthOf kX7_38 ⟨by decide, by decide⟩) [1, 2, 3, 4, 5] 1 rfl rfl rfl rfl (fun _ => Nat.le_refl _) rfl rfl (by decide) dzX7_choose_13 (by decide) (by decide) rfl (fun u _ => ?_)
  refine zv_to C rfl rfl (ws' := wW K w m o b a p bl ab n ver u ch seen) rfl ?_
  refine zv_go C okX7_choose [32] 20 ?_
  refine ⟨rfl, rfl, rfl, ?_⟩
  exact loop n (2 ^ n - 1) (wdt ab n (2 ^ n - 1)) 0 u (Nat.le_refl _) (nb_all_lt hn) rfl
set_option maxHeartbeats 4000000 in
set_option maxRecDepth 100000 in
theorem c_asSet (K : zK) (w m o b a p : Nat) (bl ab : Nat → Nat) (n : Nat) (ver : Int32) (q : zS) (ch seen : Int32) (hn : n ≤ 14) (ha : ∀ j, ab j < 2 ^ 14) :
    zM (S := zS) K yX7_asSet cX7_asSet 1 (some .int) (zq 19 0 0 436) [.ref w] (wW K w m o b a p bl ab n ver q ch seen) (fun _ => True) (fun _ => some (.int (if seen = ver then ch else nI (capt bl ab n)))) (fun u => wW K w m o b a p bl ab n ver u (if seen = ver then ch else nI (capt bl ab n)) ver) := by
  refine zo (by decide) (Nat.le_of_ble_eq_true rfl) fun x C R _ => ?_
  refine zv_go C okX7_asSet [] 20 ?_
  refine ⟨rfl, rfl, rfl, fun h => ⟨rfl, ?_⟩, fun h => ⟨rfl, rfl, rfl, ?_⟩⟩
  · have h : seen = ver := h
    subst h
    exact zr R q [0, 1, 2, 3, 4, 5] (some (.int _)) (wW K w m o b a p bl ab n seen q ch seen) (by rw [if_pos rfl]) (by rw [if_pos rfl]) trivial rfl rfl (Nat.le_refl _) (Nat.le_refl _) dzX7_asSet_33
  · refine zv_callV C (c_choose K w m o b a p bl ab n ver q ch ver hn ha) (zw_V inX7_choose kX7_28 ⟨by decide, by decide⟩) [0, 1, 2, 3, 4, 5] 0 rfl rfl rfl rfl (fun _ => Nat.le_refl _) rfl rfl (by decide) dzX7_asSet_26 (by decide) (by decide) rfl (fun u _ => ?_)
    refine zv_to C rfl rfl (ws' := wW K w m o b a p bl ab n ver u (nI (capt bl ab n)) ver) rfl ?_
    refine zv_go C okX7_asSet [] 20 ?_
    refine ⟨rfl, ?_⟩
    exact zr R u [0, 1, 2, 3, 4, 5] (some (.int _)) _ (by rw [if_neg h]) (by rw [if_neg h]) trivial rfl rfl (Nat.le_refl _) (Nat.le_refl _) dzX7_asSet_33
