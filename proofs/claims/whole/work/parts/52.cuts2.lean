/-! CUT LIST: list, refresh, length, has, setOf, numberOfLeast -/
/-- the row of cuts as the class makes it: the first, each next one -/
def cseq (bl ab : Nat → Nat) (n : Nat) : Nat → Nat
  | 0 => clo bl ab n 0
  | i + 1 => flw bl ab n (cseq bl ab n i) n
def cstp (bl ab : Nat → Nat) (n : Nat) : Nat → Nat → Nat
  | 0, i => i
  | m + 1, i => if cseq bl ab n i = 2 ^ n - 1 then i else cstp bl ab n m (i + 1)
/-- how many come ahead of the last one, which is all things -/
def cstop (bl ab : Nat → Nat) (n : Nat) : Nat := cstp bl ab n (2 ^ n - 1) 0
def cutv (bl ab : Nat → Nat) (n j : Nat) : Nat := if j < cstop bl ab n then cseq bl ab n j else 2 ^ n - 1
theorem cstp_le {bl ab : Nat → Nat} {n : Nat} : ∀ m i, i ≤ cstp bl ab n m i ∧ cstp bl ab n m i ≤ i + m
  | 0, i => ⟨Nat.le_refl _, Nat.le_refl _⟩
  | m + 1, i => by
    unfold cstp
    split
    · omega
    · have := cstp_le (bl := bl) (ab := ab) (n := n) m (i + 1)
      omega
theorem cstop_le (bl ab : Nat → Nat) (n : Nat) : cstop bl ab n ≤ 2 ^ n - 1 := by
  have := (cstp_le (bl := bl) (ab := ab) (n := n) (2 ^ n - 1) 0).2
  unfold cstop
  omega
theorem cseq_lt {bl ab : Nat → Nat} {n : Nat} (hn : n ≤ 14) : ∀ i, cseq bl ab n i < 2 ^ 14
  | 0 => clo_lt hn
  | i + 1 => flw_lt hn n
def capA (cap : Nat) : Nat → Nat
  | 0 => cap
  | i + 1 => capN (capA cap i) i
theorem capA_mono (cap : Nat) {i j : Nat} (h : i ≤ j) : capA cap i ≤ capA cap j := by
  induction h with
  | refl => exact Nat.le_refl _
  | step _ ih => exact Nat.le_trans ih (capN_le _ _)
theorem capA_ok {cap : Nat} (h0 : 0 < cap) (hc : cap ≤ 32768) : ∀ i, i ≤ 16384 → i ≤ capA cap i ∧ 0 < capA cap i ∧ capA cap i ≤ 32768
  | 0, _ => ⟨Nat.zero_le _, h0, hc⟩
  | i + 1, hi => by
    obtain ⟨h1, h2, h3⟩ := capA_ok h0 hc i (by omega)
    show i + 1 ≤ capN (capA cap i) i ∧ 0 < capN (capA cap i) i ∧ capN (capA cap i) i ≤ 32768
    unfold capN
    split <;> omega
/-- what the object keeps of the cuts is true -/
def clV (bl ab : Nat → Nat) (n : Nat) (len : Int32) (sf : Nat → Int32) : Prop := len = nI (cstop bl ab n + 1) ∧ ∀ j, j ≤ cstop bl ab n → sf j = nI (cutv bl ab n j)
set_option maxHeartbeats 4000000 in
set_option maxRecDepth 100000 in
theorem c_list (K : zK) (c o b a y : Nat) (bl ab : Nat → Nat) (n : Nat) (ver : Int32) (sf : Nat → Int32) (cap : Nat) (len seen : Int32) (hn : n ≤ 14) (h0 : 0 < cap) (hcap : cap ≤ 32768) :
    zM (S := Nat × (Nat → Int32)) K yX0_list cX0_list 4 none (zq 3 (capA cap (cstop bl ab n + 1) - cap) (2 * (capA cap (cstop bl ab n + 1) - cap)) 103) [.ref c] (wC K c o b a y bl ab n ver sf cap len seen) (fun u => clV bl ab n (nI (cstop bl ab n + 1)) u.2) (fun _ => none) (fun u => wC K c o b a u.1 bl ab n ver u.2 (capA cap (cstop bl ab n + 1)) (nI (cstop bl ab n + 1)) seen) := by
  have hall := nb_all_lt hn
  have hst := cstop_le bl ab n
  refine zo (by decide) (Nat.le_of_ble_eq_true rfl) fun x C R _ => ?_
  -- the last one
  have last : ∀ (y : Nat) (f : Nat → Int32) (lv : zv_L), (∃ z w, lv = [(0, .ref c), (1, .int (nI (2 ^ n - 1))), (2, .int z), (3, .int w)]) → (∀ j, j < cstop bl ab n → f j = nI (cseq bl ab n j)) → zv_V x (gz K (zq 3 (capA cap (cstop bl ab n + 1) - cap) (2 * (capA cap (cstop bl ab n + 1) - cap)) 103) 4 cX0_list yX0_list.cls) 48 lv [] (wC K c o b a y bl ab n ver f (capA cap (cstop bl ab n)) (nI (cstop bl ab n)) seen) (capA cap (cstop bl ab n) - cap) (2 * (capA cap (cstop bl ab n) - cap)) := by
    intro y f lv hlv hf
    obtain ⟨z, w, rfl⟩ := hlv
    obtain ⟨c1, c2, c3⟩ := capA_ok h0 hcap (cstop bl ab n) (by omega)
    have m1 := capA_mono cap (Nat.zero_le (cstop bl ab n))
    have m2 : capA cap (cstop bl ab n) ≤ capN (capA cap (cstop bl ab n)) (cstop bl ab n) := capN_le _ _
    have m0 : capA cap 0 = cap := rfl
    have m3 : capA cap (cstop bl ab n + 1) = capN (capA cap (cstop bl ab n)) (cstop bl ab n) := rfl
    refine zv_go C okX0_list [] 2 ?_
    refine zv_callV C (c_append K c o b a y bl ab n ver f (capA cap (cstop bl ab n)) (cstop bl ab n) seen (2 ^ n - 1) c2 c1 (by omega) (by omega)) (zw_V inX0_append kX0_45 ⟨by show 2 + 1 ≤ 3; omega, by show 8 + (2 + 11) + 82 ≤ 103; omega⟩) [0, 1, 2, 3, 4] 0 rfl rfl rfl rfl (fun _ => Nat.le_refl _) rfl rfl (by decide) dzX0_list_50 ?_ ?_ rfl (fun u hu => ?_)
    · show capA cap (cstop bl ab n) - cap + (capN (capA cap (cstop bl ab n)) (cstop bl ab n) - capA cap (cstop bl ab n)) ≤ capA cap (cstop bl ab n + 1) - cap
      omega
    · show 2 * (capA cap (cstop bl ab n) - cap) + 2 * (capN (capA cap (cstop bl ab n)) (cstop bl ab n) - capA cap (cstop bl ab n)) ≤ 2 * (capA cap (cstop bl ab n + 1) - cap)
      omega
    refine zr R u [0, 1, 2, 3, 4] none _ rfl rfl ⟨rfl, fun j hj => ?_⟩ rfl rfl ?_ ?_ dzX0_list_53
    · unfold cutv
      by_cases e : j < cstop bl ab n
      · rw [if_pos e, hu.1 j e, hf j e]
      · have e2 : j = cstop bl ab n := by omega
        rw [if_neg e, e2]
        exact hu.2
    · show capA cap (cstop bl ab n) - cap + (capN (capA cap (cstop bl ab n)) (cstop bl ab n) - capA cap (cstop bl ab n)) ≤ capA cap (cstop bl ab n + 1) - cap
      omega
    · show 2 * (capA cap (cstop bl ab n) - cap) + 2 * (capN (capA cap (cstop bl ab n)) (cstop bl ab n) - capA cap (cstop bl ab n)) ≤ 2 * (capA cap (cstop bl ab n + 1) - cap)
      omega
  have loop : ∀ mm i (y : Nat) (f : Nat → Int32), i + mm = 2 ^ n - 1 → cstp bl ab n mm i = cstop bl ab n → (∀ j, j < i → f j = nI (cseq bl ab n j)) → zv_V x (gz K (zq 3 (capA cap (cstop bl ab n + 1) - cap) (2 * (capA cap (cstop bl ab n + 1) - cap)) 103) 4 cX0_list yX0_list.cls) 21 [(0, .ref c), (1, .int (nI (2 ^ n - 1))), (2, .int (nI (cseq bl ab n i))), (3, .int (nI i))] [] (wC K c o b a y bl ab n ver f (capA cap i) (nI i) seen) (capA cap i - cap) (2 * (capA cap i - cap)) := by
    intro mm
    induction mm with
    | zero =>
      intro i y f hi he hf
      have he : i = cstop bl ab n := he
      refine zv_go C okX0_list [48] 20 ?_
      refine ⟨fun _ => ?_, fun h => absurd (nI_le (by omega) (by omega)) h⟩
      have hl := last y f [(0, .ref c), (1, .int (nI (2 ^ n - 1))), (2, .int (nI (cseq bl ab n i))), (3, .int (nI i))] ⟨_, _, rfl⟩ (by rw [← he]; exact hf)
      rw [← he] at hl
      rw [← he]
      exact hl
    | succ mm ih =>
      intro i y f hi he hf
      obtain ⟨c1, c2, c3⟩ := capA_ok h0 hcap i (by omega)
      have m1 := capA_mono cap (Nat.zero_le i)
      have m0 : capA cap 0 = cap := rfl
      have m2 : capA cap i ≤ capN (capA cap i) i := capN_le _ _
      have hsq := cseq_lt (bl := bl) (ab := ab) hn i
      refine zv_go C okX0_list [48] 20 ?_
      refine ⟨fun h => absurd h (nI_ge (by omega) (by omega)), fun _ => ⟨fun h => ?_, fun h => ?_⟩⟩
      · rw [nb_inj (by omega) (by omega)] at h
        rw [cstp, if_pos h] at he
        have hl := last y f [(0, .ref c), (1, .int (nI (2 ^ n - 1))), (2, .int (nI (cseq bl ab n i))), (3, .int (nI i))] ⟨_, _, rfl⟩ (by rw [← he]; exact hf)
        rw [← he] at hl
        rw [← he]
        exact hl
      · rw [nb_inj (by omega) (by omega)] at h
        rw [cstp, if_neg h] at he
        have hge := (cstp_le (bl := bl) (ab := ab) (n := n) mm (i + 1)).1
        have m3 : capN (capA cap i) i ≤ capA cap (cstop bl ab n + 1) := capA_mono cap (i := i + 1) (by omega)
        refine zv_callV C (c_append K c o b a y bl ab n ver f (capA cap i) i seen (cseq bl ab n i) c2 c1 (by omega) (by omega)) (zw_V inX0_append kX0_45 ⟨by show 2 + 1 ≤ 3; omega, by show 8 + (2 + 11) + 82 ≤ 103; omega⟩) [0, 1, 2, 3, 4] 0 rfl rfl rfl rfl (fun _ => Nat.le_refl _) rfl rfl (by decide) dzX0_list_33 ?_ ?_ rfl (fun u hu => ?_)
        · show capA cap i - cap + (capN (capA cap i) i - capA cap i) ≤ capA cap (cstop bl ab n + 1) - cap
          omega
        · show 2 * (capA cap i - cap) + 2 * (capN (capA cap i) i - capA cap i) ≤ 2 * (capA cap (cstop bl ab n + 1) - cap)
          omega
        refine zv_to C rfl rfl (ws' := wC K c o b a u.1 bl ab n ver u.2 (capA cap (i + 1)) (nI (i + 1)) seen) rfl ?_
        refine zv_wide C (ce' := capA cap (i + 1) - cap) (sl' := 2 * (capA cap (i + 1) - cap)) ?_ ?_ ?_
        · show capA cap i - cap + (capN (capA cap i) i - capA cap i) ≤ capN (capA cap i) i - cap
          omega
        · show 2 * (capA cap i - cap) + 2 * (capN (capA cap i) i - capA cap i) ≤ 2 * (capN (capA cap i) i - cap)
          omega
        refine zv_go C okX0_list [] 2 ?_
        refine zv_callV C (c_following K c o b a u.1 bl ab n ver u.2 (capA cap (i + 1)) (nI (i + 1)) seen hsq hn) (zw_V inX0_following kX0_49 ⟨by show 2 + 1 ≤ 3; omega, by show 8 + (5 + 11) + 45 ≤ 103; omega⟩) [0, 1, 2, 3, 4] 0 rfl rfl rfl rfl (fun _ => Nat.le_refl _) rfl rfl (by decide) dzX0_list_38 ?_ ?_ rfl (fun _ _ => ?_)
        · show capN (capA cap i) i - cap + 0 ≤ capA cap (cstop bl ab n + 1) - cap
          omega
        · show 2 * (capN (capA cap i) i - cap) + 0 ≤ 2 * (capA cap (cstop bl ab n + 1) - cap)
          omega
        refine zv_go C okX0_list [21] 20 ?_
        refine zv_to C (lv' := [(0, .ref c), (1, .int (nI (2 ^ n - 1))), (2, .int (nI (cseq bl ab n (i + 1)))), (3, .int (nI (i + 1)))]) (by rw [← nI_1] <;> rfl) rfl rfl (ih (i + 1) u.1 u.2 (by omega) he ?_)
        intro j hj
        by_cases e : j < i
        · rw [hu.1 j e, hf j e]
        · have e2 : j = i := by omega
          rw [e2]
          exact hu.2
  refine zv_go C okX0_list [] 2 ?_
  refine ⟨rfl, ?_⟩
  refine zv_callV C (c_all K o b a bl ab n ver hn) (zw_V inX4_all kX0_41 ⟨by show 0 + 1 ≤ 3; omega, by show 8 + (1 + 11) + 0 ≤ 103; omega⟩) [1, 2, 3] 1 rfl rfl rfl rfl (fun _ => Nat.le_refl _) rfl rfl (by decide) dzX0_list_4 (Nat.zero_le _) (Nat.zero_le _) rfl (fun _ _ => ?_)
  refine zv_to C rfl rfl (ws' := wC K c o b a y bl ab n ver sf cap len seen) rfl ?_
  refine zv_go C okX0_list [] 3 ?_
  refine zv_callV C (c_close K c o b a y bl ab n ver sf cap len seen (s := 0) (by decide) hn) (zw_V inX0_close kX0_29 ⟨by show 1 + 1 ≤ 3; omega, by show 8 + (5 + 11) + 21 ≤ 103; omega⟩) [0, 1, 2, 3, 4] 0 rfl rfl rfl rfl (fun _ => Nat.le_refl _) rfl rfl (by decide) dzX0_list_10 (Nat.zero_le _) (Nat.zero_le _) rfl (fun _ _ => ?_)
  refine zv_to C rfl rfl (ws' := wC K c o b a y bl ab n ver sf cap len seen) rfl ?_
  refine zv_go C okX0_list [21] 20 ?_
  refine ⟨rfl, ?_⟩
  refine zv_wide C (ce' := capA cap 0 - cap) (sl' := 2 * (capA cap 0 - cap)) (Nat.zero_le _) (Nat.zero_le _) ?_
  exact loop (2 ^ n - 1) 0 y sf (by omega) rfl (fun j hj => absurd hj (Nat.not_lt_zero _))
