/-! MATCHING: most, widthOf -/
def msS (ab : Nat → Nat) (n lo up : Nat) : Nat → (Nat → Option Nat) × Nat
  | 0 => (fun _ => none, 0)
  | k + 1 => if lo.testBit k = true then ((pu ab n up 15 k (msS ab n lo up k).1 0).2.1, if (pu ab n up 15 k (msS ab n lo up k).1 0).1 = true then (msS ab n lo up k).2 + 1 else (msS ab n lo up k).2) else msS ab n lo up k
def mst (ab : Nat → Nat) (n lo up : Nat) : Nat := (msS ab n lo up n).2
theorem msS_ok {ab : Nat → Nat} {n lo up : Nat} (hn : n ≤ 14) : ∀ k, k ≤ n → puV (msS ab n lo up k).1
  | 0, _ => fun _ _ h => by cases h
  | k + 1, hk => by
    have h := msS_ok (lo := lo) (up := up) (ab := ab) hn k (by omega)
    unfold msS
    split
    · exact (pu_ok hn 15 k _ 0 (by omega) h (by decide)).1
    · exact h
/-- a matching's own scratch: its partners, its uppers, what it tried -/
abbrev zS : Type := (Nat → Int32) × Int32 × Int32
set_option maxHeartbeats 4000000 in
set_option maxRecDepth 100000 in
theorem c_most (K : zK) (m o b a p : Nat) (bl ab : Nat → Nat) (n : Nat) (ver : Int32) (q : zS) {lo up : Nat} (hlo : lo < 2 ^ 32) (hn : n ≤ 14) (ha : ∀ j, ab j < 2 ^ 14) :
    zM (S := zS) K yX2_most cX2_most 5 (some .int) (zq 16 0 0 368) [.ref m, .int (nI lo), .int (nI up)] (wM K m o b a p bl ab n ver q.1 q.2.1 q.2.2) (fun _ => True) (fun _ => some (.int (nI (mst ab n lo up)))) (fun u => wM K m o b a p bl ab n ver u.1 u.2.1 u.2.2) := by
  refine zo (by decide) (Nat.le_of_ble_eq_true rfl) fun x C R _ => ?_
  have loop2 : ∀ mm k (tr : Int32), k + mm = n → zv_V x (gz K (zq 16 0 0 368) 5 cX2_most yX2_most.cls) 31 [(0, .ref m), (1, .int (nI lo)), (2, .int (nI up)), (3, .int (nI (msS ab n lo up k).2)), (4, .int (nI k))] [] (wM K m o b a p bl ab n ver (fun j => oI ((msS ab n lo up k).1 j)) (nI up) tr) 0 0 := by
    intro mm
    induction mm with
    | zero =>
      intro k tr hk
      have e : k = n := by omega
      subst e
      refine zv_go C okX2_most [] 20 ?_
      refine ⟨rfl, rfl, fun _ => ?_, fun h => absurd (nI_le (Nat.le_refl _) (by omega)) h⟩
      exact zr R (_, _, _) [0, 1, 2, 3, 4] (some (.int _)) _ rfl rfl trivial rfl rfl (Nat.le_refl _) (Nat.le_refl _) dzX2_most_77
    | succ mm ih =>
      intro k tr hk
      refine zv_go C okX2_most [31] 40 ?_
      refine ⟨rfl, rfl, fun h => absurd h (nI_ge (by omega) (by omega)), fun _ => ⟨rfl, fun h => ?_, fun h => ?_⟩⟩
      · rw [nb_t0 hlo (by omega)] at h
        have e : msS ab n lo up (k + 1) = msS ab n lo up k := by
          show (if lo.testBit k = true then _ else _) = _
          rw [if_neg (by rw [h]; decide)]
        refine zv_to C (lv' := [(0, .ref m), (1, .int (nI lo)), (2, .int (nI up)), (3, .int (nI (msS ab n lo up (k + 1)).2)), (4, .int (nI (k + 1)))]) (by rw [e, ← nI_1]; rfl) rfl (ws' := wM K m o b a p bl ab n ver (fun j => oI ((msS ab n lo up (k + 1)).1 j)) (nI up) 0) (by rw [e]; rfl) (ih (k + 1) 0 (by omega))
      · rw [nb_t1 hlo (by omega)] at h
        have e : msS ab n lo up (k + 1) = ((pu ab n up 15 k (msS ab n lo up k).1 0).2.1, if (pu ab n up 15 k (msS ab n lo up k).1 0).1 = true then (msS ab n lo up k).2 + 1 else (msS ab n lo up k).2) := by
          show (if lo.testBit k = true then _ else _) = _
          rw [if_pos h]
        have hpv := msS_ok (lo := lo) (up := up) (ab := ab) hn k (by omega)
        refine zv_callV C (c_pairUp K m o b a p bl ab n ver up hn ha 15 (by omega) k (msS ab n lo up k).1 0 (by omega) hpv (by decide)) (zw_V inX2_pairUp kX2_31 ⟨by decide, by decide⟩) [0, 1, 2, 3, 4] 0 rfl rfl rfl rfl (fun _ => Nat.le_refl _) rfl rfl (by decide) dzX2_most_61 (Nat.le_refl _) (Nat.le_refl _) rfl (fun _ _ => ?_)
        generalize hr : pu ab n up 15 k (msS ab n lo up k).1 0 = r at e ⊢
        obtain ⟨r1, P2, T2⟩ := r
        refine zv_to C rfl rfl (ws' := wM K m o b a p bl ab n ver (fun j => oI (P2 j)) (nI up) (nI T2)) rfl ?_
        refine zv_go C okX2_most [31] 40 ?_
        refine ⟨fun h3 => ?_, fun h3 => ?_⟩
        · rw [bI_0] at h3
          have h3 : r1 = false := h3
          subst h3
          refine zv_to C (lv' := [(0, .ref m), (1, .int (nI lo)), (2, .int (nI up)), (3, .int (nI (msS ab n lo up (k + 1)).2)), (4, .int (nI (k + 1)))]) (by rw [e, ← nI_1]; rfl) rfl (ws' := wM K m o b a p bl ab n ver (fun j => oI ((msS ab n lo up (k + 1)).1 j)) (nI up) (nI T2)) (by rw [e]) (ih (k + 1) _ (by omega))
        · rw [bI_1] at h3
          have h3 : r1 = true := h3
          subst h3
          refine zv_to C (lv' := [(0, .ref m), (1, .int (nI lo)), (2, .int (nI up)), (3, .int (nI (msS ab n lo up (k + 1)).2)), (4, .int (nI (k + 1)))]) (by rw [e, ← nI_1 k]; show _ = [_, _, _, (3, Value.int (nI ((msS ab n lo up k).2 + 1))), _]; rw [← nI_1]; rfl) rfl (ws' := wM K m o b a p bl ab n ver (fun j => oI ((msS ab n lo up (k + 1)).1 j)) (nI up) (nI T2)) (by rw [e]) (ih (k + 1) _ (by omega))
  have loop1 : ∀ mm k (f : Nat → Int32), k + mm = 14 → (∀ j, j < k → f j = -1) → zv_V x (gz K (zq 16 0 0 368) 5 cX2_most yX2_most.cls) 7 [(0, .ref m), (1, .int (nI lo)), (2, .int (nI up)), (3, .int (nI k))] [] (wM K m o b a p bl ab n ver f (nI up) q.2.2) 0 0 := by
    intro mm
    induction mm with
    | zero =>
      intro k f hk hf
      have e : k = 14 := by omega
      subst e
      refine zv_exI C 4 (fun j => oI ((fun _ => none : Nat → Option Nat) j)) rfl (fun j hj => by rw [hf j hj]; rfl) ?_
      refine zv_go C okX2_most [31] 20 ?_
      refine ⟨fun _ => ?_, fun h => absurd (by decide) h⟩
      exact zv_to C rfl rfl rfl (loop2 n 0 q.2.2 (by omega))
    | succ mm ih =>
      intro k f hk hf
      refine zv_go C okX2_most [7] 30 ?_
      refine ⟨fun h => absurd h (nI_ge (b := 14) (by omega) (by omega)), fun _ => ⟨rfl, ⟨rfl, rfl⟩, vp_in_nI (by omega) (by decide), ?_⟩⟩
      refine zv_to C (lv' := [(0, .ref m), (1, .int (nI lo)), (2, .int (nI up)), (3, .int (nI (k + 1)))]) (by rw [← nI_1]; rfl) rfl rfl (ih (k + 1) _ (by omega) ?_)
      intro j hj
      rw [nI_clamp (by omega)]
      by_cases e : j = k
      · rw [e, pk_us]
      · rw [pk_un e]; exact hf j (by omega)
  refine zv_go C okX2_most [7] 20 ?_
  refine ⟨rfl, ?_⟩
  exact loop1 14 0 _ rfl (fun j hj => absurd hj (Nat.not_lt_zero _))
def wdt (ab : Nat → Nat) (n s : Nat) : Int32 := nI (npc 14 s) - nI (mst ab n s s)
set_option maxHeartbeats 4000000 in
set_option maxRecDepth 100000 in
theorem c_widthOf (K : zK) (m o b a p : Nat) (bl ab : Nat → Nat) (n : Nat) (ver : Int32) (q : zS) {s : Nat} (hs : s < 2 ^ 14) (hn : n ≤ 14) (ha : ∀ j, ab j < 2 ^ 14) :
    zM (S := zS) K yX2_widthOf cX2_widthOf 2 (some .int) (zq 17 0 0 392) [.ref m, .int (nI s)] (wM K m o b a p bl ab n ver q.1 q.2.1 q.2.2) (fun _ => True) (fun _ => some (.int (wdt ab n s))) (fun u => wM K m o b a p bl ab n ver u.1 u.2.1 u.2.2) := by
  refine zo (by decide) (Nat.le_of_ble_eq_true rfl) fun x C R _ => ?_
  refine zv_go C okX2_widthOf [] 1 ?_
  refine zv_callS C (c_bitCount K hs) (zw_S inJ6_bitCount_0f7a4 kX2_35 ⟨by decide, by decide⟩) [] rfl rfl (fun _ => Nat.le_refl _) (rest := []) rfl rfl (Nat.le_of_ble_eq_true rfl) dzX2_widthOf_1 (by decide) (by decide) rfl (fun _ _ => ?_)
  refine zv_to C rfl rfl (ws' := wM K m o b a p bl ab n ver q.1 q.2.1 q.2.2) rfl ?_
  refine zv_go C okX2_widthOf [] 3 ?_
  refine zv_callV C (c_most K m o b a p bl ab n ver q (lo := s) (up := s) (Nat.lt_trans hs (by decide)) hn ha) (zw_V inX2_most kX2_41 ⟨by decide, by decide⟩) [0, 1, 2, 3, 4] 0 rfl rfl rfl rfl (fun _ => Nat.le_refl _) (rest := [.int (nI (npc 14 s))]) rfl rfl (Nat.le_of_ble_eq_true rfl) dzX2_widthOf_7 (by decide) (by decide) rfl (fun u _ => ?_)
  refine zv_go C okX2_widthOf [] 3 ?_
  exact zr R u [0, 1, 2, 3, 4] (some (.int _)) _ rfl rfl trivial rfl rfl (Nat.le_refl _) (Nat.le_refl _) dzX2_widthOf_11
