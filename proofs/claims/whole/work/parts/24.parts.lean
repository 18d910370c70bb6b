/-! PARTS: leastGoodLink, link, nextOf -/
abbrev wP (K : zK) (t m o b a p y : Nat) (bl ab : Nat → Nat) (n : Nat) (ver : Int32) (q : zS) (nf : Nat → Int32) (seen : Int32) : va_W := [(t, .inr (5, [.ref o, .ref m, .ref y, .int seen])), (m, .inr (2, [.ref o, .ref p, .int q.2.1, .int q.2.2])), (o, .inr (4, [.ref b, .ref a, .int (nI n), .int ver])), (b, .inl (cI K, 14, .inl (fun j => nI (bl j)))), (a, .inl (cI K, 14, .inl (fun j => nI (ab j)))), (p, .inl (cI K, 14, .inl q.1)), (y, .inl (cI K, 14, .inl nf))]
def lgl (ab : Nat → Nat) (n v op : Nat) (due : Int32) : Nat → Option Nat
  | 0 => none
  | k + 1 => if (ab v &&& op).testBit (n - (k + 1)) = true ∧ nI (mst ab n (nhi (2 ^ n - 1) (v + 1)) (ndf op (2 ^ (n - (k + 1))))) = due - 1 then some (n - (k + 1)) else lgl ab n v op due k
theorem lgl_lt {ab : Nat → Nat} {n v op : Nat} {due : Int32} {u : Nat} : ∀ k, k ≤ n → lgl ab n v op due k = some u → u < n
  | 0, _, h => by cases h
  | k + 1, hk, h => by
    unfold lgl at h
    split at h
    · cases h; omega
    · exact lgl_lt k (by omega) h
set_option maxHeartbeats 4000000 in
set_option maxRecDepth 100000 in
theorem c_leastGoodLink (K : zK) (t m o b a p y : Nat) (bl ab : Nat → Nat) (n : Nat) (ver : Int32) (q : zS) (nf : Nat → Int32) (seen : Int32) {v op : Nat} (due : Int32) (hv : v < 14) (hop : op < 2 ^ 14) (hn : n ≤ 14) (ha : ∀ j, ab j < 2 ^ 14) :
    zM (S := zS) K yX5_leastGoodLink cX5_leastGoodLink 6 (some .int) (zq 17 0 0 392) [.ref t, .int (nI v), .int (nI op), .int due] (wP K t m o b a p y bl ab n ver q nf seen) (fun _ => True) (fun _ => some (.int (oI (lgl ab n v op due n)))) (fun u => wP K t m o b a p y bl ab n ver u nf seen) := by
  refine zo (by decide) (Nat.le_of_ble_eq_true rfl) fun x C R _ => ?_
  have hlt : nhi (2 ^ n - 1) (v + 1) < 2 ^ 32 := by
    have h1 : nhi (2 ^ n - 1) (v + 1) ≤ 2 ^ n - 1 := by
      unfold nhi
      rw [Nat.shiftLeft_eq, Nat.shiftRight_eq_div_pow]
      exact Nat.div_mul_le_self _ _
    exact Nat.lt_of_le_of_lt h1 (Nat.lt_trans (nb_all_lt hn) (by decide))
  have loop : ∀ mm (q : zS), mm ≤ n → lgl ab n v op due mm = lgl ab n v op due n → zv_V x (gz K (zq 17 0 0 392) 6 cX5_leastGoodLink yX5_leastGoodLink.cls) 19 [(0, .ref t), (1, .int (nI v)), (2, .int (nI op)), (3, .int due), (4, .int (nI (nhi (2 ^ n - 1) (v + 1)))), (5, .int (nI (n - mm)))] [] (wP K t m o b a p y bl ab n ver q nf seen) 0 0 := by
    intro mm
    induction mm with
    | zero =>
      intro q _ he
      refine zv_go C okX5_leastGoodLink [] 20 ?_
      refine ⟨rfl, rfl, fun _ => ?_, fun h => absurd (nI_le (by omega) (by omega)) h⟩
      exact zr R q [0, 1, 2, 3, 4, 5, 6] (some (.int (-1))) _ (by rw [← he] <;> rfl) rfl trivial rfl rfl (Nat.le_refl _) (Nat.le_refl _) dzX5_leastGoodLink_83
    | succ mm ih =>
      intro q hmm he
      have hs : ab v &&& op < 2 ^ 32 := Nat.lt_of_le_of_lt Nat.and_le_left (Nat.lt_trans (ha v) (by decide))
      have enx : nI (n - (mm + 1)) + 1 = nI (n - mm) := by rw [nI_1]; congr 1; omega
      refine zv_go C okX5_leastGoodLink [19] 40 ?_
      refine ⟨rfl, rfl, fun h => absurd h (nI_ge (by omega) (by omega)), fun _ => ⟨rfl, rfl, ⟨rfl, rfl⟩, vp_in_nI hv (by decide), fun h => ?_, fun h => ⟨rfl, ?_⟩⟩⟩
      · rw [nI_clamp (by omega), nb_and, nb_t0 hs (by omega)] at h
        rw [lgl, if_neg (fun z => by rw [z.1] at h; cases h)] at he
        exact zv_to C (lv' := [(0, .ref t), (1, .int (nI v)), (2, .int (nI op)), (3, .int due), (4, .int (nI (nhi (2 ^ n - 1) (v + 1)))), (5, .int (nI (n - mm)))]) (by rw [← enx] <;> rfl) rfl rfl (ih q (by omega) he)
      · rw [nI_clamp (by omega), nb_and, nb_t1 hs (by omega)] at h
        refine zv_to C rfl (st' := [.int (nI (ndf op (2 ^ (n - (mm + 1))))), .int (nI (nhi (2 ^ n - 1) (v + 1))), .ref m]) (by rw [← nb_not, ← nb_1s _ (by omega)] <;> rfl) rfl ?_
        refine zv_callV C (c_most K m o b a p bl ab n ver q (lo := nhi (2 ^ n - 1) (v + 1)) (up := ndf op (2 ^ (n - (mm + 1)))) hlt hn ha) (zw_V inX2_most kX5_39 ⟨by decide, by decide⟩) [1, 2, 3, 4, 5] 1 rfl rfl rfl rfl (fun _ => Nat.le_refl _) rfl rfl (by decide) dzX5_leastGoodLink_64 (by decide) (by decide) rfl (fun u _ => ?_)
        refine zv_to C rfl rfl (ws' := wP K t m o b a p y bl ab n ver u nf seen) rfl ?_
        refine zv_go C okX5_leastGoodLink [19] 40 ?_
        refine ⟨fun h2 => ?_, fun h2 => ?_⟩
        · rw [lgl, if_neg (fun z => h2 z.2)] at he
          exact zv_to C (lv' := [(0, .ref t), (1, .int (nI v)), (2, .int (nI op)), (3, .int due), (4, .int (nI (nhi (2 ^ n - 1) (v + 1)))), (5, .int (nI (n - mm)))]) (by rw [← enx] <;> rfl) rfl rfl (ih u (by omega) he)
        · rw [lgl, if_pos ⟨h, h2⟩] at he
          exact zr R u [0, 1, 2, 3, 4, 5, 6] (some (.int _)) _ (by rw [← he] <;> rfl) rfl trivial rfl rfl (Nat.le_refl _) (Nat.le_refl _) dzX5_leastGoodLink_75
  refine zv_go C okX5_leastGoodLink [] 2 ?_
  refine ⟨rfl, ?_⟩
  refine zv_callV C (c_all K o b a bl ab n ver hn) (zw_V inX4_all kX5_35 ⟨by decide, by decide⟩) [2, 3, 4] 2 rfl rfl rfl rfl (fun _ => Nat.le_refl _) rfl rfl (by decide) dzX5_leastGoodLink_4 (by decide) (by decide) rfl (fun _ _ => ?_)
  refine zv_to C rfl rfl (ws' := wP K t m o b a p y bl ab n ver q nf seen) rfl ?_
  refine zv_go C okX5_leastGoodLink [19] 20 ?_
  refine zv_to C (lv' := [(0, .ref t), (1, .int (nI v)), (2, .int (nI op)), (3, .int due), (4, .int (nI (nhi (2 ^ n - 1) (v + 1)))), (5, .int (nI (n - n)))]) ?_ rfl rfl (loop n q (Nat.le_refl _) rfl)
  rw [Nat.sub_self, ← nb_hi _ _ (by omega), ← nI_1]
  rfl
/-- the run over things: what is open, how many links are due, the links -/
def lkS (ab : Nat → Nat) (n : Nat) : Nat → Nat × Int32 × (Nat → Option Nat)
  | 0 => (2 ^ n - 1, nI (mst ab n (2 ^ n - 1) (2 ^ n - 1)), fun _ => none)
  | k + 1 => match lgl ab n k (lkS ab n k).1 (lkS ab n k).2.1 n with
    | none => ((lkS ab n k).1, (lkS ab n k).2.1, va_up (lkS ab n k).2.2 k none)
    | some u => (ndf (lkS ab n k).1 (2 ^ u), (lkS ab n k).2.1 + (-1), va_up (lkS ab n k).2.2 k (some u))
theorem lkS_lt {ab : Nat → Nat} {n : Nat} (hn : n ≤ 14) : ∀ k, (lkS ab n k).1 < 2 ^ 14
  | 0 => nb_all_lt hn
  | k + 1 => by
    have h := lkS_lt (ab := ab) hn k
    unfold lkS
    split
    · exact h
    · exact Nat.lt_of_le_of_lt (ndf_le _ _) h
set_option maxHeartbeats 4000000 in
set_option maxRecDepth 100000 in
theorem c_link (K : zK) (t m o b a p y : Nat) (bl ab : Nat → Nat) (n : Nat) (ver : Int32) (q : zS) (nf : Nat → Int32) (seen : Int32) (hn : n ≤ 14) (ha : ∀ j, ab j < 2 ^ 14) :
    zM (S := zS × (Nat → Int32)) K yX5_link cX5_link 4 none (zq 18 0 0 417) [.ref t] (wP K t m o b a p y bl ab n ver q nf seen) (fun u => ∀ j, j < n → u.2 j = oI ((lkS ab n n).2.2 j)) (fun _ => none) (fun u => wP K t m o b a p y bl ab n ver u.1 u.2 seen) := by
  refine zo (by decide) (Nat.le_of_ble_eq_true rfl) fun x C R _ => ?_
  have loop : ∀ mm k (q : zS) (f : Nat → Int32), k + mm = n → (∀ j, j < k → f j = oI ((lkS ab n k).2.2 j)) → zv_V x (gz K (zq 18 0 0 417) 4 cX5_link yX5_link.cls) 20 [(0, .ref t), (1, .int (nI (lkS ab n k).1)), (2, .int (lkS ab n k).2.1), (3, .int (nI k))] [] (wP K t m o b a p y bl ab n ver q f seen) 0 0 := by
    intro mm
    induction mm with
    | zero =>
      intro k q f hk hf
      have e : k = n := by omega
      subst e
      refine zv_go C okX5_link [] 20 ?_
      refine ⟨rfl, rfl, fun _ => ?_, fun h => absurd (nI_le (Nat.le_refl _) (by omega)) h⟩
      exact zr R (q, f) [0, 1, 2, 3, 4, 5, 6] none _ rfl rfl hf rfl rfl (Nat.le_refl _) (Nat.le_refl _) dzX5_link_76
    | succ mm ih =>
      intro k q f hk hf
      refine zv_go C okX5_link [20] 30 ?_
      refine ⟨rfl, rfl, fun h => absurd h (nI_ge (by omega) (by omega)), fun _ => ⟨rfl, ?_⟩⟩
      refine zv_callV C (c_leastGoodLink K t m o b a p y bl ab n ver q f seen (v := k) (op := (lkS ab n k).1) (lkS ab n k).2.1 (by omega) (lkS_lt hn k) hn ha) (zw_V inX5_leastGoodLink kX5_48 ⟨by decide, by decide⟩) [0, 1, 2, 3, 4, 5, 6] 0 rfl rfl rfl rfl (fun _ => Nat.le_refl _) (rest := [.int (nI k), .ref y]) rfl rfl (Nat.le_of_ble_eq_true rfl) dzX5_link_40 (by decide) (by decide) rfl (fun u _ => ?_)
      refine zv_to C rfl rfl (ws' := wP K t m o b a p y bl ab n ver u f seen) rfl ?_
      refine zv_go C okX5_link [20] 50 ?_
      have ec : (nI k).toNatClampNeg = k := nI_clamp (by omega)
      generalize hr : lgl ab n k (lkS ab n k).1 (lkS ab n k).2.1 n = r
      have hf2 : ∀ j, j < k + 1 → upd f (nI k).toNatClampNeg (oI r) j = oI (va_up (lkS ab n k).2.2 k r j) := by
        intro j hj
        rw [ec]
        unfold va_up
        by_cases e : j = k
        · rw [e, pk_us, if_pos rfl]
        · rw [pk_un e, if_neg e]; exact hf j (by omega)
      refine ⟨⟨rfl, rfl⟩, vp_in_nI (by omega) (by decide), rfl, ⟨rfl, rfl⟩, vp_in_nI (by omega) (by decide), fun h => ?_, fun h => ⟨rfl, ⟨rfl, rfl⟩, vp_in_nI (by omega) (by decide), ?_⟩⟩
      · have h : upd f (nI k).toNatClampNeg (oI r) (nI k).toNatClampNeg = -1 := h
        rw [pk_us] at h
        have hn0 : r = none := by
          cases r with
          | none => rfl
          | some j => exact absurd h (nI_m1 (Nat.lt_of_lt_of_le (lgl_lt n (Nat.le_refl _) hr) (by omega)))
        subst hn0
        have e : lkS ab n (k + 1) = ((lkS ab n k).1, (lkS ab n k).2.1, va_up (lkS ab n k).2.2 k none) := by
          conv => lhs; unfold lkS
          rw [hr]
        refine zv_to C (lv' := [(0, .ref t), (1, .int (nI (lkS ab n (k + 1)).1)), (2, .int (lkS ab n (k + 1)).2.1), (3, .int (nI (k + 1)))]) (by rw [e, ← nI_1] <;> rfl) rfl rfl (ih (k + 1) u _ (by omega) ?_)
        rw [e]
        exact hf2
      · have h : ¬ upd f (nI k).toNatClampNeg (oI r) (nI k).toNatClampNeg = -1 := h
        rw [pk_us] at h
        cases r with
        | none => exact absurd rfl h
        | some j =>
          have hj := lgl_lt n (Nat.le_refl _) hr
          have e : lkS ab n (k + 1) = (ndf (lkS ab n k).1 (2 ^ j), (lkS ab n k).2.1 + (-1), va_up (lkS ab n k).2.2 k (some j)) := by
            conv => lhs; unfold lkS
            rw [hr]
          refine zv_to C (lv' := [(0, .ref t), (1, .int (nI (lkS ab n (k + 1)).1)), (2, .int (lkS ab n (k + 1)).2.1), (3, .int (nI (k + 1)))]) ?_ rfl rfl (ih (k + 1) u _ (by omega) ?_)
          · show [(0, Value.ref t), (1, .int (nI (lkS ab n k).1 &&& ((1 : Int32) <<< (upd f (nI k).toNatClampNeg (oI (some j)) (nI k).toNatClampNeg &&& 31) ^^^ (-1)))), (2, .int ((lkS ab n k).2.1 + (-1))), (3, .int (nI k + 1))] = _
            rw [pk_us, e]
            show [(0, Value.ref t), (1, .int (nI (lkS ab n k).1 &&& ((1 : Int32) <<< (nI j &&& 31) ^^^ (-1)))), (2, .int ((lkS ab n k).2.1 + (-1))), (3, .int (nI k + 1))] = _
            rw [nb_1s j (by omega), nb_not, nI_1]
          · rw [e]
            exact hf2
  refine zv_go C okX5_link [] 2 ?_
  refine ⟨rfl, ?_⟩
  refine zv_callV C (c_all K o b a bl ab n ver hn) (zw_V inX4_all kX5_35 ⟨by decide, by decide⟩) [2, 3, 4] 2 rfl rfl rfl rfl (fun _ => Nat.le_refl _) rfl rfl (by decide) dzX5_link_4 (by decide) (by decide) rfl (fun _ _ => ?_)
  refine zv_to C rfl rfl (ws' := wP K t m o b a p y bl ab n ver q nf seen) rfl ?_
  refine zv_go C okX5_link [] 5 ?_
  refine ⟨rfl, ?_⟩
  refine zv_callV C (c_most K m o b a p bl ab n ver q (lo := 2 ^ n - 1) (up := 2 ^ n - 1) (Nat.lt_trans (nb_all_lt hn) (by decide)) hn ha) (zw_V inX2_most kX5_39 ⟨by decide, by decide⟩) [1, 2, 3, 4, 5] 1 rfl rfl rfl rfl (fun _ => Nat.le_refl _) rfl rfl (by decide) dzX5_link_14 (by decide) (by decide) rfl (fun u _ => ?_)
  refine zv_to C rfl rfl (ws' := wP K t m o b a p y bl ab n ver u nf seen) rfl ?_
  refine zv_go C okX5_link [20] 20 ?_
  exact loop n 0 u nf (by omega) (fun j hj => absurd hj (Nat.not_lt_zero _))
set_option maxHeartbeats 4000000 in
set_option maxRecDepth 100000 in
theorem c_nextOf (K : zK) (t m o b a p y : Nat) (bl ab : Nat → Nat) (n : Nat) (ver : Int32) (q : zS) (nf : Nat → Int32) (seen : Int32) {v : Nat} (hv : v < n) (hn : n ≤ 14) (ha : ∀ j, ab j < 2 ^ 14) (hs : seen = ver → ∀ j, j < n → nf j = oI ((lkS ab n n).2.2 j)) :
    zM (S := zS × (Nat → Int32)) K yX5_nextOf cX5_nextOf 2 (some .int) (zq 19 0 0 440) [.ref t, .int (nI v)] (wP K t m o b a p y bl ab n ver q nf seen) (fun u => ∀ j, j < n → u.2 j = oI ((lkS ab n n).2.2 j)) (fun _ => some (.int (oI ((lkS ab n n).2.2 v)))) (fun u => wP K t m o b a p y bl ab n ver u.1 u.2 ver) := by
  refine zo (by decide) (Nat.le_of_ble_eq_true rfl) fun x C R _ => ?_
  have ec : (nI v).toNatClampNeg = v := nI_clamp (by omega)
  refine zv_go C okX5_nextOf [] 20 ?_
  refine ⟨rfl, rfl, rfl, fun h => ⟨rfl, ⟨rfl, rfl⟩, vp_in_nI (by omega) (by decide), ?_⟩, fun h => ⟨rfl, rfl, rfl, ?_⟩⟩
  · have h : seen = ver := h
    subst h
    exact zr R (q, nf) [0, 1, 2, 3, 4, 5, 6] (some (.int _)) _ (by rw [ec, hs rfl v hv]) rfl (hs rfl) rfl rfl (Nat.le_refl _) (Nat.le_refl _) dzX5_nextOf_35
  · refine zv_callV C (c_link K t m o b a p y bl ab n ver q nf ver hn ha) (zw_V inX5_link kX5_32 ⟨by decide, by decide⟩) [0, 1, 2, 3, 4, 5, 6] 0 rfl rfl rfl rfl (fun _ => Nat.le_refl _) rfl rfl (by decide) dzX5_nextOf_26 (by decide) (by decide) rfl (fun u hu => ?_)
    refine zv_to C rfl rfl (ws' := wP K t m o b a p y bl ab n ver u.1 u.2 ver) rfl ?_
    refine zv_go C okX5_nextOf [] 20 ?_
    refine ⟨rfl, ⟨rfl, rfl⟩, vp_in_nI (by omega) (by decide), ?_⟩
    exact zr R u [0, 1, 2, 3, 4, 5, 6] (some (.int _)) _ (by rw [ec, hu v hv]) rfl hu rfl rfl (Nat.le_refl _) (Nat.le_refl _) dzX5_nextOf_35
