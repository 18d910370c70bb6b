/-! CUT LIST: close, following, append -/
abbrev wC (K : zK) (c o b a y : Nat) (bl ab : Nat → Nat) (n : Nat) (ver : Int32) (sf : Nat → Int32) (cap : Nat) (len seen : Int32) : va_W := [(c, .inr (0, [.ref o, .ref y, .int len, .int seen])), (o, .inr (4, [.ref b, .ref a, .int (nI n), .int ver])), (b, .inl (cI K, 14, .inl (fun j => nI (bl j)))), (a, .inl (cI K, 14, .inl (fun j => nI (ab j)))), (y, .inl (cI K, cap, .inl sf))]
/-- all of n things that are in each of the sets r v with v in s, v < k -/
def clU (r : Nat → Nat) (n s : Nat) : Nat → Nat
  | 0 => 2 ^ n - 1
  | k + 1 => if s.testBit k = true then clU r n s k &&& (r k ||| 2 ^ k) else clU r n s k
theorem clU_lt {r : Nat → Nat} {n s : Nat} (hn : n ≤ 14) : ∀ k, clU r n s k < 2 ^ 14
  | 0 => nb_all_lt hn
  | k + 1 => by
    have h := clU_lt (r := r) (s := s) hn k
    unfold clU
    split
    · exact Nat.lt_of_le_of_lt Nat.and_le_left h
    · exact h
def clo (bl ab : Nat → Nat) (n s : Nat) : Nat := clU bl n (clU ab n s n) n
theorem clo_lt {bl ab : Nat → Nat} {n s : Nat} (hn : n ≤ 14) : clo bl ab n s < 2 ^ 14 := clU_lt hn n
set_option maxHeartbeats 4000000 in
set_option maxRecDepth 100000 in
theorem c_close (K : zK) (c o b a y : Nat) (bl ab : Nat → Nat) (n : Nat) (ver : Int32) (sf : Nat → Int32) (cap : Nat) (len seen : Int32) {s : Nat} (hs : s < 2 ^ 14) (hn : n ≤ 14) :
    zD K yX0_close cX0_close 5 (some .int) (zq 1 0 0 21) [.ref c, .int (nI s)] (wC K c o b a y bl ab n ver sf cap len seen) (some (.int (nI (clo bl ab n s)))) (wC K c o b a y bl ab n ver sf cap len seen) := by
  refine zo (by decide) (Nat.le_of_ble_eq_true rfl) fun x C R _ => ?_
  have hov := clU_lt (r := ab) (n := n) (s := s) hn n
  have loop2 : ∀ mm k, k + mm = n → zv_V x (gz K (zq 1 0 0 21) 5 cX0_close yX0_close.cls) 57 [(0, .ref c), (1, .int (nI s)), (2, .int (nI (clU ab n s n))), (3, .int (nI (clU bl n (clU ab n s n) k))), (4, .int (nI k))] [] (wC K c o b a y bl ab n ver sf cap len seen) 0 0 := by
    intro mm
    induction mm with
    | zero =>
      intro k hk
      have e : k = n := by omega
      subst e
      refine zv_go C okX0_close [] 20 ?_
      refine ⟨rfl, rfl, fun _ => ?_, fun h => absurd (nI_le (Nat.le_refl _) (by omega)) h⟩
      exact zr R () [0, 1, 2, 3, 4] (some (.int _)) _ rfl rfl trivial rfl rfl (Nat.le_refl _) (Nat.le_refl _) dzX0_close_97
    | succ mm ih =>
      intro k hk
      refine zv_go C okX0_close [57] 30 ?_
      refine ⟨rfl, rfl, fun h => absurd h (nI_ge (by omega) (by omega)), fun _ => ⟨fun h => ?_, fun h => ⟨rfl, ?_⟩⟩⟩
      · rw [nb_t0 (Nat.lt_trans hov (by decide)) (by omega)] at h
        refine zv_to C (lv' := [(0, .ref c), (1, .int (nI s)), (2, .int (nI (clU ab n s n))), (3, .int (nI (clU bl n (clU ab n s n) (k + 1)))), (4, .int (nI (k + 1)))]) ?_ rfl rfl (ih (k + 1) (by omega))
        rw [clU.eq_2 bl n (clU ab n s n) k, if_neg (by rw [h]; decide), ← nI_1]
        rfl
      · rw [nb_t1 (Nat.lt_trans hov (by decide)) (by omega)] at h
        refine zv_callV C (c_downFrom K o b a bl ab n ver (i := k) (by omega)) (zw_V inX4_downFrom kX0_64 ⟨by decide, by decide⟩) [1, 2, 3] 1 rfl rfl rfl rfl (fun _ => Nat.le_refl _) (rest := [.int (nI (clU bl n (clU ab n s n) k))]) rfl rfl (Nat.le_of_ble_eq_true rfl) dzX0_close_85 (by decide) (by decide) rfl (fun _ _ => ?_)
        refine zv_to C rfl rfl (ws' := wC K c o b a y bl ab n ver sf cap len seen) rfl ?_
        refine zv_go C okX0_close [57] 30 ?_
        refine zv_to C (lv' := [(0, .ref c), (1, .int (nI s)), (2, .int (nI (clU ab n s n))), (3, .int (nI (clU bl n (clU ab n s n) (k + 1)))), (4, .int (nI (k + 1)))]) ?_ rfl rfl (ih (k + 1) (by omega))
        rw [clU.eq_2 bl n (clU ab n s n) k, if_pos h, ← nI_1, ← nb_and]
        rfl
  have loop1 : ∀ mm k, k + mm = n → zv_V x (gz K (zq 1 0 0 21) 5 cX0_close yX0_close.cls) 10 [(0, .ref c), (1, .int (nI s)), (2, .int (nI (clU ab n s k))), (3, .int (nI k))] [] (wC K c o b a y bl ab n ver sf cap len seen) 0 0 := by
    intro mm
    induction mm with
    | zero =>
      intro k hk
      have e : k = n := by omega
      subst e
      refine zv_go C okX0_close [] 20 ?_
      refine ⟨rfl, rfl, fun _ => ⟨rfl, ?_⟩, fun h => absurd (nI_le (Nat.le_refl _) (by omega)) h⟩
      refine zv_callV C (c_all K o b a bl ab k ver hn) (zw_V inX4_all kX0_41 ⟨by decide, by decide⟩) [1, 2, 3] 1 rfl rfl rfl rfl (fun _ => Nat.le_refl _) rfl rfl (by decide) dzX0_close_50 (by decide) (by decide) rfl (fun _ _ => ?_)
      refine zv_to C rfl rfl (ws' := wC K c o b a y bl ab k ver sf cap len seen) rfl ?_
      refine zv_go C okX0_close [57] 20 ?_
      exact loop2 k 0 (by omega)
    | succ mm ih =>
      intro k hk
      refine zv_go C okX0_close [10] 30 ?_
      refine ⟨rfl, rfl, fun h => absurd h (nI_ge (by omega) (by omega)), fun _ => ⟨fun h => ?_, fun h => ⟨rfl, ?_⟩⟩⟩
      · rw [nb_t0 (Nat.lt_trans hs (by decide)) (by omega)] at h
        refine zv_to C (lv' := [(0, .ref c), (1, .int (nI s)), (2, .int (nI (clU ab n s (k + 1)))), (3, .int (nI (k + 1)))]) ?_ rfl rfl (ih (k + 1) (by omega))
        rw [clU.eq_2, if_neg (by rw [h]; decide), ← nI_1]
        rfl
      · rw [nb_t1 (Nat.lt_trans hs (by decide)) (by omega)] at h
        refine zv_callV C (c_upFrom K o b a bl ab n ver (i := k) (by omega)) (zw_V inX4_upFrom kX0_61 ⟨by decide, by decide⟩) [1, 2, 3] 1 rfl rfl rfl rfl (fun _ => Nat.le_refl _) (rest := [.int (nI (clU ab n s k))]) rfl rfl (Nat.le_of_ble_eq_true rfl) dzX0_close_35 (by decide) (by decide) rfl (fun _ _ => ?_)
        refine zv_to C rfl rfl (ws' := wC K c o b a y bl ab n ver sf cap len seen) rfl ?_
        refine zv_go C okX0_close [10] 30 ?_
        refine zv_to C (lv' := [(0, .ref c), (1, .int (nI s)), (2, .int (nI (clU ab n s (k + 1)))), (3, .int (nI (k + 1)))]) ?_ rfl rfl (ih (k + 1) (by omega))
        rw [clU.eq_2, if_pos h, ← nI_1, ← nb_and]
        rfl
  refine zv_go C okX0_close [] 2 ?_
  refine ⟨rfl, ?_⟩
  refine zv_callV C (c_all K o b a bl ab n ver hn) (zw_V inX4_all kX0_41 ⟨by decide, by decide⟩) [1, 2, 3] 1 rfl rfl rfl rfl (fun _ => Nat.le_refl _) rfl rfl (by decide) dzX0_close_4 (by decide) (by decide) rfl (fun _ _ => ?_)
  refine zv_to C rfl rfl (ws' := wC K c o b a y bl ab n ver sf cap len seen) rfl ?_
  refine zv_go C okX0_close [10] 20 ?_
  exact loop1 n 0 (by omega)
def flw (bl ab : Nat → Nat) (n s : Nat) : Nat → Nat
  | 0 => 2 ^ n - 1
  | m + 1 => if s.testBit (n - (m + 1)) = false ∧ nhi (clo bl ab n (nhi s (n - (m + 1)) ||| 2 ^ (n - (m + 1)))) (n - (m + 1)) = nhi s (n - (m + 1)) ||| 2 ^ (n - (m + 1)) then clo bl ab n (nhi s (n - (m + 1)) ||| 2 ^ (n - (m + 1))) else flw bl ab n s m
theorem nhi_le (s v : Nat) : nhi s v ≤ s := by
  unfold nhi
  rw [Nat.shiftLeft_eq, Nat.shiftRight_eq_div_pow]
  exact Nat.div_mul_le_self _ _
theorem flw_lt {bl ab : Nat → Nat} {n s : Nat} (hn : n ≤ 14) : ∀ m, flw bl ab n s m < 2 ^ 14
  | 0 => nb_all_lt hn
  | m + 1 => by
    unfold flw
    split
    · exact clo_lt hn
    · exact flw_lt hn m
set_option maxHeartbeats 4000000 in
set_option maxRecDepth 100000 in
theorem c_following (K : zK) (c o b a y : Nat) (bl ab : Nat → Nat) (n : Nat) (ver : Int32) (sf : Nat → Int32) (cap : Nat) (len seen : Int32) {s : Nat} (hs : s < 2 ^ 14) (hn : n ≤ 14) :
    zD K yX0_following cX0_following 5 (some .int) (zq 2 0 0 45) [.ref c, .int (nI s)] (wC K c o b a y bl ab n ver sf cap len seen) (some (.int (nI (flw bl ab n s n)))) (wC K c o b a y bl ab n ver sf cap len seen) := by
  refine zo (by decide) (Nat.le_of_ble_eq_true rfl) fun x C R _ => ?_
  have loop : ∀ mm (lv2 : zv_L), mm ≤ n → flw bl ab n s mm = flw bl ab n s n → (lv2 = [] ∨ ∃ z w, lv2 = [(3, .int z), (4, .int w)]) → zv_V x (gz K (zq 2 0 0 45) 5 cX0_following yX0_following.cls) 2 ([(0, .ref c), (1, .int (nI s)), (2, .int (nI (n - mm)))] ++ lv2) [] (wC K c o b a y bl ab n ver sf cap len seen) 0 0 := by
    intro mm
    induction mm with
    | zero =>
      intro lv2 _ he hl2
      refine zv_drop C [0, 1, 2] (lv' := [(0, .ref c), (1, .int (nI s)), (2, .int (nI (n - 0)))]) (by rcases hl2 with rfl | ⟨z, w, rfl⟩ <;> rfl) ?_
      refine zv_go C okX0_following [] 20 ?_
      refine ⟨rfl, rfl, fun _ => ⟨rfl, ?_⟩, fun h => absurd (nI_le (by omega) (by omega)) h⟩
      refine zv_callV C (c_all K o b a bl ab n ver hn) (zw_V inX4_all kX0_41 ⟨by decide, by decide⟩) [1, 2, 3] 1 rfl rfl rfl rfl (fun _ => Nat.le_refl _) rfl rfl (by decide) dzX0_following_63 (by decide) (by decide) rfl (fun _ _ => ?_)
      exact zr R () [0, 1, 2, 3, 4] (some (.int _)) _ (by rw [← he] <;> rfl) rfl trivial rfl rfl (Nat.le_refl _) (Nat.le_refl _) dzX0_following_66
    | succ mm ih =>
      intro lv2 hm he hl2
      have enx : nI (n - (mm + 1)) + 1 = nI (n - mm) := by rw [nI_1]; congr 1; omega
      have hg : nhi s (n - (mm + 1)) ||| 2 ^ (n - (mm + 1)) < 2 ^ 14 := nb_lt_or (Nat.lt_of_le_of_lt (nhi_le _ _) hs) (nb_lt_pow (by omega))
      refine zv_drop C [0, 1, 2] (lv' := [(0, .ref c), (1, .int (nI s)), (2, .int (nI (n - (mm + 1))))]) (by rcases hl2 with rfl | ⟨z, w, rfl⟩ <;> rfl) ?_
      refine zv_go C okX0_following [2] 40 ?_
      refine ⟨rfl, rfl, fun h => absurd h (nI_ge (by omega) (by omega)), fun _ => ⟨fun h => ?_, fun h => ?_⟩⟩
      · rw [nb_t1 (Nat.lt_trans hs (by decide)) (by omega)] at h
        rw [flw, if_neg (fun q => by rw [q.1] at h; cases h)] at he
        exact zv_to C (lv' := [(0, .ref c), (1, .int (nI s)), (2, .int (nI (n - mm)))]) (by rw [← enx] <;> rfl) rfl rfl (ih [] (by omega) he (Or.inl rfl))
      · rw [nb_t0 (Nat.lt_trans hs (by decide)) (by omega)] at h
        refine zv_to C (lv' := [(0, .ref c), (1, .int (nI s)), (2, .int (nI (n - (mm + 1)))), (3, .int (nI (nhi s (n - (mm + 1)) ||| 2 ^ (n - (mm + 1)))))]) ?_ (st' := [.int (nI (nhi s (n - (mm + 1)) ||| 2 ^ (n - (mm + 1)))), .ref c]) ?_ rfl ?_
        · rw [← nb_or, ← nb_hi _ _ (by omega), ← nb_1s _ (by omega)] <;> rfl
        · rw [← nb_or, ← nb_hi _ _ (by omega), ← nb_1s _ (by omega)] <;> rfl
        refine zv_callV C (c_close K c o b a y bl ab n ver sf cap len seen hg hn) (zw_V inX0_close kX0_29 ⟨by decide, by decide⟩) [0, 1, 2, 3, 4] 0 rfl rfl rfl rfl (fun _ => Nat.le_refl _) rfl rfl (by decide) dzX0_following_34 (by decide) (by decide) rfl (fun _ _ => ?_)
        refine zv_to C rfl rfl (ws' := wC K c o b a y bl ab n ver sf cap len seen) rfl ?_
        refine zv_go C okX0_following [2] 40 ?_
        have hcl : nhi (clo bl ab n (nhi s (n - (mm + 1)) ||| 2 ^ (n - (mm + 1)))) (n - (mm + 1)) < 2 ^ 32 := Nat.lt_of_le_of_lt (nhi_le _ _) (Nat.lt_trans (clo_lt hn) (by decide))
        refine ⟨fun h2 => ?_, fun h2 => ?_⟩
        · rw [nb_hi _ _ (by omega), nb_inj hcl (Nat.lt_trans hg (by decide))] at h2
          rw [flw, if_neg (fun q => h2 q.2)] at he
          exact zv_to C (lv' := [(0, .ref c), (1, .int (nI s)), (2, .int (nI (n - mm))), (3, .int (nI (nhi s (n - (mm + 1)) ||| 2 ^ (n - (mm + 1))))), (4, .int (nI (clo bl ab n (nhi s (n - (mm + 1)) ||| 2 ^ (n - (mm + 1))))))]) (by rw [← enx] <;> rfl) rfl rfl (ih [_, _] (by omega) he (Or.inr ⟨_, _, rfl⟩))
        · rw [nb_hi _ _ (by omega), nb_inj hcl (Nat.lt_trans hg (by decide))] at h2
          rw [flw, if_pos ⟨h, h2⟩] at he
          exact zr R () [0, 1, 2, 3, 4] (some (.int _)) _ (by rw [← he] <;> rfl) rfl trivial rfl rfl (Nat.le_refl _) (Nat.le_refl _) dzX0_following_52
  refine zv_go C okX0_following [2] 20 ?_
  exact zv_to C (lv' := [(0, .ref c), (1, .int (nI s)), (2, .int (nI (n - n)))]) (by rw [Nat.sub_self] <;> rfl) rfl rfl (loop n [] (Nat.le_refl _) rfl (Or.inl rfl))
/-- an array's room behind one more item -/
def capN (cap L : Nat) : Nat := if L = cap then 2 * cap else cap
theorem capN_le (cap L : Nat) : cap ≤ capN cap L := by
  unfold capN
  split <;> omega
set_option maxHeartbeats 4000000 in
set_option maxRecDepth 100000 in
theorem c_append (K : zK) (c o b a y : Nat) (bl ab : Nat → Nat) (n : Nat) (ver : Int32) (sf : Nat → Int32) (cap L : Nat) (seen : Int32) (s : Nat) (h0 : 0 < cap) (hL : L ≤ cap) (hL2 : L ≤ 16384) (hcap : cap ≤ 65536) :
    zM (S := Nat × (Nat → Int32)) K yX0_append cX0_append 2 none (zq 2 (capN cap L - cap) (2 * (capN cap L - cap)) 82) [.ref c, .int (nI s)] (wC K c o b a y bl ab n ver sf cap (nI L) seen) (fun u => (∀ j, j < L → u.2 j = sf j) ∧ u.2 L = nI s) (fun _ => none) (fun u => wC K c o b a u.1 bl ab n ver u.2 (capN cap L) (nI (L + 1)) seen) := by
  refine zo (by decide) (Nat.le_of_ble_eq_true rfl) fun x C R _ => ?_
  have ec : (nI L).toNatClampNeg = L := nI_clamp (by omega)
  refine zv_go C okX0_append [] 20 ?_
  refine ⟨rfl, rfl, ⟨rfl, rfl⟩, fun h => ⟨rfl, rfl, ⟨rfl, rfl⟩, ?_, rfl, rfl, ?_⟩, fun h => ⟨rfl, rfl, ?_⟩⟩
  · -- it fits
    rw [nb_inj (by omega) (by omega)] at h
    exact vp_in_nI (by omega) (by omega)
  · rw [nb_inj (by omega) (by omega)] at h
    have e : capN cap L = cap := if_neg h
    refine zr R (y, upd sf L (nI s)) [0, 1, 2, 3, 4] none (wC K c o b a y bl ab n ver (upd sf L (nI s)) cap (nI (L + 1)) seen) rfl (by rw [e]) ⟨fun j hj => pk_un (by omega), pk_us⟩ ?_ rfl (Nat.zero_le _) (Nat.zero_le _) dzX0_append_49
    rw [← nI_1]
    show [some _, some _, some _, some _, some (y, Sum.inl (cI K, cap, Sum.inl (upd sf (nI L).toNatClampNeg (nI s))))] = _
    rw [ec]
    rfl
  · -- it grows
    have h : nI L = nI cap := h
    rw [nb_inj (by omega) (by omega)] at h
    subst h
    have e : capN L L = 2 * L := if_pos rfl
    refine zv_to C rfl (st' := [.int (nI (2 * L)), .ref y, .ref c]) ?_ rfl ?_
    · show [Value.int (nI 2 * nI L), Value.ref y, Value.ref c] = _
      rw [pk_mul]
    refine zv_callS C (c_copyOf K y L (2 * L) sf (by omega) (by omega)) (zw_S inJ7_copyOf_59c91 kX0_52 ⟨by show 1 + 1 ≤ 2; omega, by show 8 + (3 + 11) + 60 ≤ 82; omega⟩) [4] rfl rfl (fun _ => by show 1 ≤ 2; omega) (rest := [.ref c]) rfl rfl (Nat.le_of_ble_eq_true rfl) dzX0_append_23 (by show 0 + 1 ≤ capN L L - L; rw [e]; omega) (by show 0 + 2 * L ≤ 2 * (capN L L - L); rw [e]; omega) rfl (fun u _ => ?_)
    refine zv_cells C [0, 1, 2, 3, 5] rfl (ws' := wC K c o b a y bl ab n ver sf L (nI L) seen |>.set 4 (u, .inl (cI K, 2 * L, .inl (fun j => if j < L then sf j else 0)))) rfl ?_
    refine zv_to C rfl rfl (ws' := [(c, .inr (0, [.ref o, .ref y, .int (nI L), .int seen])), (o, .inr (4, [.ref b, .ref a, .int (nI n), .int ver])), (b, .inl (cI K, 14, .inl (fun j => nI (bl j)))), (a, .inl (cI K, 14, .inl (fun j => nI (ab j)))), (u, .inl (cI K, 2 * L, .inl (fun j => if j < L then sf j else 0)))]) rfl ?_
    refine zv_go C okX0_append [] 20 ?_
    refine ⟨rfl, rfl, rfl, ⟨rfl, rfl⟩, vp_in_nI (by omega) (by omega), rfl, rfl, ?_⟩
    refine zr R (u, upd (fun j => if j < L then sf j else 0) L (nI s)) [0, 1, 2, 3, 4] none (wC K c o b a u bl ab n ver (upd (fun j => if j < L then sf j else 0) L (nI s)) (2 * L) (nI (L + 1)) seen) rfl (by rw [e]) ⟨fun j hj => by show upd (fun j => if j < L then sf j else 0) L (nI s) j = sf j; rw [pk_un (by omega)]; exact if_pos hj, show upd (fun j => if j < L then sf j else 0) L (nI s) L = nI s from pk_us⟩ ?_ rfl (by show 0 + 1 ≤ capN L L - L; rw [e]; omega) (by show 0 + 2 * L ≤ 2 * (capN L L - L); rw [e]; omega) dzX0_append_49
    rw [← nI_1]
    show [some _, some _, some _, some _, some (u, Sum.inl (cI K, 2 * L, Sum.inl (upd (fun j => if j < L then sf j else 0) (nI L).toNatClampNeg (nI s))))] = _
    rw [ec]
    rfl
