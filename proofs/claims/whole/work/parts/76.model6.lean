/-! THE MODEL: row, rank -/
def mrV (Lf : Nat → Bool) (n : Nat) (g : Nat → Int64) (left : Nat) : Nat → Nat → Int64 → Option (Nat × Int64)
  | 0, _, _ => none
  | d + 1, v, num => if mayC Lf n left v = true ∧ num < g (ndf left (2 ^ v)) then some (v, num) else mrV Lf n g left d (v + 1) (num - (if mayC Lf n left v = true then g (ndf left (2 ^ v)) else 0))
def mrF (Lf : Nat → Bool) (n : Nat) (g : Nat → Int64) : Nat → Int64 → Int64 → Nat → Option Int64
  | 0, _, rw, _ => some rw
  | m + 1, num, rw, left => (mrV Lf n g left n 0 num).bind fun z => mrF Lf n g m z.2 (rw ||| ((nI z.1).toInt64 <<< ((nI (4 * (n - (m + 1)))).toInt64 &&& 63))) (ndf left (2 ^ z.1))
def mdg (row : Int64) (i : Nat) : Int32 := ((row >>> ((nI (4 * i)).toInt64 &&& 63)) &&& 15).toInt32
def mdt (row : Int64) (i : Nat) : Nat := (mdg row i).toNatClampNeg
theorem mdg_and (x : Int64) : (x &&& 15).toInt32 = x.toInt32 &&& 15 := by
  apply Int32.toBitVec_inj.mp
  simp
theorem mdt_ok (row : Int64) (i : Nat) : mdg row i = nI (mdt row i) ∧ mdt row i < 16 := by
  obtain ⟨j, hj, e⟩ := pk_andE (row >>> ((nI (4 * i)).toInt64 &&& 63)).toInt32 (m := 15) 4 (by decide)
  have e : mdg row i = nI j := by unfold mdg; rw [mdg_and]; exact e
  have e2 : mdt row i = j := by unfold mdt; rw [e]; exact nI_clamp (by omega)
  exact ⟨by rw [e2]; exact e, by rw [e2]; exact hj⟩
def msm (Lf : Nat → Bool) (n : Nat) (g : Nat → Int64) (num : Int64) (left : Nat) : Nat → Int64
  | 0 => num
  | u + 1 => msm Lf n g num left u + (if mayC Lf n left u = true then g (ndf left (2 ^ u)) else 0)
def mkF (Lf : Nat → Bool) (n : Nat) (g : Nat → Int64) (row : Int64) : Nat → Int64 → Nat → Int64
  | 0, num, _ => num
  | m + 1, num, left => if n ≤ 15 - m then (if mdt row (15 - m) = 0 then mkF Lf n g row m num left else -1) else if mdt row (15 - m) < n ∧ mayC Lf n left (mdt row (15 - m)) = true then mkF Lf n g row m (msm Lf n g num left (mdt row (15 - m))) (ndf left (2 ^ mdt row (15 - m))) else -1
section MF
variable (K : zK) (A : Nat → Nat) (n : Nat) (cc : Int32)
set_option maxHeartbeats 4000000 in
set_option maxRecDepth 100000 in
theorem m_row_no (Lf : Nat → Bool) (g0 : Nat → Int64) (k : Int64) (hn : n ≤ 14) (h : k < 0 ∨ (foA Lf n g0) (2 ^ n - 1) ≤ k) : zD K yX9_row cX9_row 10 (some .long) (zq 2 0 0 80) [.ref (A 0), .long k] [mO A n cc, mZ K (A 1) Lf, mJ K (A 3) g0] (some (.long (-1))) [mO A n cc, mZ K (A 1) Lf, mJ K (A 3) (foA Lf n g0)] := by
  refine zo (by decide) (Nat.le_of_ble_eq_true rfl) fun x C R _ => ?_
  have hp : 0 < 2 ^ n := Nat.two_pow_pos n
  have hp14 := pow_le14 hn
  refine zv_go C okX9_row [] 20 ?_
  refine ⟨rfl, ?_⟩
  refine zv_callV C (m_findOrders K A n cc Lf (A 1) g0 hn) (zw_V inX9_findOrders kX9_96 ⟨by decide, by decide⟩) [0, 1, 2] 0 rfl rfl rfl rfl (fun _ => Nat.le_refl _) rfl rfl (by decide) dzX9_row_5 (by decide) (by decide) rfl (fun _ _ => ?_)
  refine zv_to C rfl rfl (ws' := [mO A n cc, mZ K (A 1) Lf, mJ K (A 3) (foA Lf n g0)]) rfl ?_
  refine zv_go C okX9_row [] 20 ?_
  refine ⟨fun h1 => ?_, fun h1 => ⟨rfl, ?_⟩⟩
  · exact zr R () [0, 1, 2] (some (.long (-1))) _ rfl rfl trivial rfl rfl (Nat.zero_le _) (Nat.zero_le _) dzX9_row_31
  rw [lg_cmp_lt] at h1
  refine zv_callV C (m_all K A n cc hn) (zw_V inX9_all kX9_61 ⟨by decide, by decide⟩) [0] 0 rfl rfl rfl rfl (fun _ => Nat.le_refl _) (rest := [.ref (A 3), .long k]) rfl rfl (Nat.le_of_ble_eq_true rfl) dzX9_row_20 (by decide) (by decide) rfl (fun _ _ => ?_)
  refine zv_to C rfl rfl (ws' := [mO A n cc, mZ K (A 1) Lf, mJ K (A 3) (foA Lf n g0)]) rfl ?_
  refine zv_go C okX9_row [] 6 ?_
  refine ⟨⟨rfl, rfl⟩, vp_in_nI (by omega) (by decide), fun h2 => ?_, fun h2 => ?_⟩
  · rw [lg_cmp_lt] at h2
    have h2 : k < (foA Lf n g0) (nI (2 ^ n - 1)).toNatClampNeg := h2
    rw [nI_clamp (by omega)] at h2
    exact absurd h (fun q => q.elim h1 (fun z => absurd h2 (Int64.not_lt.mpr z)))
  · exact zr R () [0, 1, 2] (some (.long (-1))) _ rfl rfl trivial rfl rfl (Nat.zero_le _) (Nat.zero_le _) dzX9_row_31
set_option maxHeartbeats 4000000 in
set_option maxRecDepth 100000 in
theorem m_row (Lf : Nat → Bool) (g0 : Nat → Int64) (k : Int64) (hn : n ≤ 14) (h : ¬ (k < 0 ∨ (foA Lf n g0) (2 ^ n - 1) ≤ k)) (res : Int64) (hr : mrF Lf n (foA Lf n g0) n k 0 (2 ^ n - 1) = some res) : zD K yX9_row cX9_row 10 (some .long) (zq 2 0 0 80) [.ref (A 0), .long k] [mO A n cc, mZ K (A 1) Lf, mJ K (A 3) g0] (some (.long res)) [mO A n cc, mZ K (A 1) Lf, mJ K (A 3) (foA Lf n g0)] := by
  refine zo (by decide) (Nat.le_of_ble_eq_true rfl) fun x C R _ => ?_
  have hp : 0 < 2 ^ n := Nat.two_pow_pos n
  have hp14 := pow_le14 hn
  have inner : ∀ (GG : Nat → Int64) (rw' : Int64) (pl left : Nat), left < 2 ^ n → ∀ (v' : Nat) (num' : Int64), (v' < n → zv_V x (gz K (zq 2 0 0 80) 10 cX9_row yX9_row.cls) 129 [(0, .ref (A 0)), (1, .long k), (3, .long rw'), (5, .long num'), (7, .int (nI left)), (8, .int (nI pl)), (9, .int (nI v'))] [] [mO A n cc, mZ K (A 1) Lf, mJ K (A 3) GG] 0 0) → ∀ d v num, v + d = n → mrV Lf n GG left d v num = some (v', num') → zv_V x (gz K (zq 2 0 0 80) 10 cX9_row yX9_row.cls) 58 [(0, .ref (A 0)), (1, .long k), (3, .long rw'), (5, .long num), (7, .int (nI left)), (8, .int (nI pl)), (9, .int (nI v))] [] [mO A n cc, mZ K (A 1) Lf, mJ K (A 3) GG] 0 0 := by
    intro GG rw' pl left hl v' num' hend d
    induction d with
    | zero => intro v num _ hv; cases hv
    | succ d ih =>
      intro v num hvd hv
      have ec : nI left &&& ((1 : Int32) <<< (nI v &&& 31) ^^^ (-1)) = nI (ndf left (2 ^ v)) := nb_clr _ _ (by omega)
      have hle := ndf_le left (2 ^ v)
      have ein : vp_in (nI left &&& ((1 : Int32) <<< (nI v &&& 31) ^^^ (-1))) 16384 := by rw [ec]; exact vp_in_nI (by omega) (by decide)
      have ecl : (nI left &&& ((1 : Int32) <<< (nI v &&& 31) ^^^ (-1))).toNatClampNeg = ndf left (2 ^ v) := by rw [ec]; exact nI_clamp (by omega)
      have again : ∀ num2 : Int64, num2 = num - (if mayC Lf n left v = true then GG (ndf left (2 ^ v)) else 0) → ¬ (mayC Lf n left v = true ∧ num < GG (ndf left (2 ^ v))) → zv_V x (gz K (zq 2 0 0 80) 10 cX9_row yX9_row.cls) 120 [(0, .ref (A 0)), (1, .long k), (3, .long rw'), (5, .long num), (7, .int (nI left)), (8, .int (nI pl)), (9, .int (nI v))] [.long (if mayC Lf n left v = true then GG (ndf left (2 ^ v)) else 0), .long num] [mO A n cc, mZ K (A 1) Lf, mJ K (A 3) GG] 0 0 := by
        intro num2 e2 hno
        rw [mrV, if_neg hno] at hv
        refine zv_go C okX9_row [58] 10 ?_
        exact zv_to C (lv' := [(0, .ref (A 0)), (1, .long k), (3, .long rw'), (5, .long (num - (if mayC Lf n left v = true then GG (ndf left (2 ^ v)) else 0))), (7, .int (nI left)), (8, .int (nI pl)), (9, .int (nI (v + 1)))]) (by rw [← nI_1 v] <;> rfl) rfl rfl (ih (v + 1) _ (by omega) hv)
      have second : ¬ (mayC Lf n left v = true ∧ num < GG (ndf left (2 ^ v))) → zv_V x (gz K (zq 2 0 0 80) 10 cX9_row yX9_row.cls) 89 [(0, .ref (A 0)), (1, .long k), (3, .long rw'), (5, .long num), (7, .int (nI left)), (8, .int (nI pl)), (9, .int (nI v))] [] [mO A n cc, mZ K (A 1) Lf, mJ K (A 3) GG] 0 0 := by
        intro hno
        refine zv_go C okX9_row [] 10 ?_
        refine zv_callV C (m_mayCome K A n cc Lf (v := v) (s := left) (by omega) (by omega) hn) (zw_V inX9_mayCome kX9_101 ⟨by decide, by decide⟩) [0, 1] 0 rfl rfl rfl rfl (fun _ => Nat.le_refl _) (rest := [.long num]) rfl rfl (Nat.le_of_ble_eq_true rfl) dzX9_row_96 (by decide) (by decide) rfl (fun _ _ => ?_)
        refine zv_to C rfl rfl (ws' := [mO A n cc, mZ K (A 1) Lf, mJ K (A 3) GG]) rfl ?_
        refine zv_go C okX9_row [120] 20 ?_
        refine ⟨fun h1 => ?_, fun h1 => ⟨rfl, ⟨rfl, rfl⟩, ein, ?_⟩⟩
        · rw [bI_0] at h1
          refine zv_to C rfl ?_ rfl (again _ rfl hno)
          rw [h1]
          rfl
        · rw [bI_1] at h1
          refine zv_to C rfl ?_ rfl (again _ rfl hno)
          rw [if_pos h1]
          show [Value.long (GG (nI left &&& ((1 : Int32) <<< (nI v &&& 31) ^^^ (-1))).toNatClampNeg), _] = _
          rw [ecl]
      refine zv_go C okX9_row [] 10 ?_
      refine zv_callV C (m_mayCome K A n cc Lf (v := v) (s := left) (by omega) (by omega) hn) (zw_V inX9_mayCome kX9_101 ⟨by decide, by decide⟩) [0, 1] 0 rfl rfl rfl rfl (fun _ => Nat.le_refl _) rfl rfl (by decide) dzX9_row_63 (by decide) (by decide) rfl (fun _ _ => ?_)
      refine zv_to C rfl rfl (ws' := [mO A n cc, mZ K (A 1) Lf, mJ K (A 3) GG]) rfl ?_
      refine zv_go C okX9_row [129, 89] 20 ?_
      refine ⟨fun h1 => ?_, fun h1 => ⟨rfl, ⟨rfl, rfl⟩, ein, fun h2 => ?_, fun h2 => ?_⟩⟩
      · rw [bI_0] at h1
        exact second (fun q => by rw [h1] at q; cases q.1)
      · rw [bI_1] at h1
        rw [lg_cmp_lt] at h2
        have h2 : num < GG (nI left &&& ((1 : Int32) <<< (nI v &&& 31) ^^^ (-1))).toNatClampNeg := h2
        rw [ecl] at h2
        rw [mrV, if_pos ⟨h1, h2⟩] at hv
        have hv := Option.some.inj hv
        have e1 : v = v' := congrArg Prod.fst hv
        have e2 : num = num' := congrArg Prod.snd hv
        subst e1
        subst e2
        exact hend (by omega)
      · rw [lg_cmp_lt] at h2
        have h2 : ¬ num < GG (nI left &&& ((1 : Int32) <<< (nI v &&& 31) ^^^ (-1))).toNatClampNeg := h2
        rw [ecl] at h2
        exact second (fun q => h2 q.2)
  have loop : ∀ mm (num rw' : Int64) (left : Nat), mm ≤ n → left < 2 ^ n → mrF Lf n (foA Lf n g0) mm num rw' left = some res → zv_V x (gz K (zq 2 0 0 80) 10 cX9_row yX9_row.cls) 46 [(0, .ref (A 0)), (1, .long k), (3, .long rw'), (5, .long num), (7, .int (nI left)), (8, .int (nI (n - mm)))] [] [mO A n cc, mZ K (A 1) Lf, mJ K (A 3) (foA Lf n g0)] 0 0 := by
    intro mm
    induction mm with
    | zero =>
      intro num rw' left _ hl hf
      refine zv_go C okX9_row [] 20 ?_
      refine ⟨rfl, fun _ => ?_, fun h => absurd (nI_le (by omega) (by omega)) h⟩
      have hf := Option.some.inj hf
      subst hf
      exact zr R () [0, 1, 2] (some (.long _)) _ rfl rfl trivial rfl rfl (Nat.zero_le _) (Nat.zero_le _) dzX9_row_158
    | succ mm ih =>
      intro num rw' left hm hl hf
      have enx : nI (n - (mm + 1)) + 1 = nI (n - mm) := by rw [nI_1]; congr 1; omega
      rw [mrF] at hf
      cases hv : mrV Lf n (foA Lf n g0) left n 0 num with
      | none => rw [hv] at hf; cases hf
      | some z =>
        rw [hv] at hf
        have hf : mrF Lf n (foA Lf n g0) mm z.2 (rw' ||| ((nI z.1).toInt64 <<< ((nI (4 * (n - (mm + 1)))).toInt64 &&& 63))) (ndf left (2 ^ z.1)) = some res := hf
        refine zv_go C okX9_row [58] 20 ?_
        refine ⟨rfl, fun h => absurd h (nI_ge (by omega) (by omega)), fun _ => ?_⟩
        refine inner (foA Lf n g0) rw' (n - (mm + 1)) left hl z.1 z.2 (fun hz => ?_) n 0 num (by omega) hv
        refine zv_go C okX9_row [46] 30 ?_
        refine zv_drop C [0, 1, 2, 3, 4, 5] (lv' := [(0, .ref (A 0)), (1, .long k), (3, .long (rw' ||| ((nI z.1).toInt64 <<< ((nI (4 * (n - (mm + 1)))).toInt64 &&& 63)))), (5, .long z.2), (7, .int (nI (ndf left (2 ^ z.1)))), (8, .int (nI (n - mm)))]) ?_ ?_
        · rw [← enx, ← nb_clr left z.1 (by omega), ← pk_mul]
          rfl
        · exact ih _ _ _ (by omega) (Nat.lt_of_le_of_lt (ndf_le _ _) hl) hf
  refine zv_go C okX9_row [] 20 ?_
  refine ⟨rfl, ?_⟩
  refine zv_callV C (m_findOrders K A n cc Lf (A 1) g0 hn) (zw_V inX9_findOrders kX9_96 ⟨by decide, by decide⟩) [0, 1, 2] 0 rfl rfl rfl rfl (fun _ => Nat.le_refl _) rfl rfl (by decide) dzX9_row_5 (by decide) (by decide) rfl (fun _ _ => ?_)
  refine zv_to C rfl rfl (ws' := [mO A n cc, mZ K (A 1) Lf, mJ K (A 3) (foA Lf n g0)]) rfl ?_
  refine zv_go C okX9_row [] 20 ?_
  refine ⟨fun h1 => ?_, fun h1 => ⟨rfl, ?_⟩⟩
  · rw [lg_cmp_lt] at h1
    exact absurd (Or.inl h1) h
  refine zv_callV C (m_all K A n cc hn) (zw_V inX9_all kX9_61 ⟨by decide, by decide⟩) [0] 0 rfl rfl rfl rfl (fun _ => Nat.le_refl _) (rest := [.ref (A 3), .long k]) rfl rfl (Nat.le_of_ble_eq_true rfl) dzX9_row_20 (by decide) (by decide) rfl (fun _ _ => ?_)
  refine zv_to C rfl rfl (ws' := [mO A n cc, mZ K (A 1) Lf, mJ K (A 3) (foA Lf n g0)]) rfl ?_
  refine zv_go C okX9_row [] 12 ?_
  refine ⟨⟨rfl, rfl⟩, vp_in_nI (by omega) (by decide), fun h2 => ?_, fun h2 => ?_⟩
  rotate_left
  · rw [lg_cmp_lt] at h2
    have h2 : ¬ k < (foA Lf n g0) (nI (2 ^ n - 1)).toNatClampNeg := h2
    rw [nI_clamp (by omega)] at h2
    exact absurd (Or.inr (Int64.not_lt.mp h2)) h
  refine zv_callV C (m_all K A n cc hn) (zw_V inX9_all kX9_61 ⟨by decide, by decide⟩) [0] 0 rfl rfl rfl rfl (fun _ => Nat.le_refl _) rfl rfl (by decide) dzX9_row_38 (by decide) (by decide) rfl (fun _ _ => ?_)
  refine zv_to C rfl rfl (ws' := [mO A n cc, mZ K (A 1) Lf, mJ K (A 3) (foA Lf n g0)]) rfl ?_
  refine zv_go C okX9_row [46] 20 ?_
  exact zv_to C (lv' := [(0, .ref (A 0)), (1, .long k), (3, .long 0), (5, .long k), (7, .int (nI (2 ^ n - 1))), (8, .int (nI (n - n)))]) (by rw [Nat.sub_self] <;> rfl) rfl rfl (loop n k 0 (2 ^ n - 1) (Nat.le_refl _) (by omega) hr)
set_option maxHeartbeats 4000000 in
set_option maxRecDepth 100000 in
theorem m_rank (Lf : Nat → Bool) (g0 : Nat → Int64) (row : Int64) (hn : n ≤ 14) : zD K yX9_rank cX9_rank 9 (some .long) (zq 2 0 0 80) [.ref (A 0), .long row] [mO A n cc, mZ K (A 1) Lf, mJ K (A 3) g0] (some (.long (mkF Lf n (foA Lf n g0) row 16 0 (2 ^ n - 1)))) [mO A n cc, mZ K (A 1) Lf, mJ K (A 3) (foA Lf n g0)] := by
  refine zo (by decide) (Nat.le_of_ble_eq_true rfl) fun x C R _ => ?_
  have hp : 0 < 2 ^ n := Nat.two_pow_pos n
  have hp14 := pow_le14 hn
  have inner : ∀ (GG : Nat → Int64) (num : Int64) (left pl d : Nat), left < 2 ^ n → d < n → (zv_V x (gz K (zq 2 0 0 80) 9 cX9_rank yX9_rank.cls) 129 [(0, .ref (A 0)), (1, .long row), (3, .long (msm Lf n GG num left d)), (5, .int (nI left)), (6, .int (nI pl)), (7, .int (nI d)), (8, .int (nI d))] [] [mO A n cc, mZ K (A 1) Lf, mJ K (A 3) GG] 0 0) → ∀ u, u ≤ d → zv_V x (gz K (zq 2 0 0 80) 9 cX9_rank yX9_rank.cls) 84 [(0, .ref (A 0)), (1, .long row), (3, .long (msm Lf n GG num left u)), (5, .int (nI left)), (6, .int (nI pl)), (7, .int (nI d)), (8, .int (nI u))] [] [mO A n cc, mZ K (A 1) Lf, mJ K (A 3) GG] 0 0 := by
    intro GG num left pl d hl hd hend
    refine zl d ?_ fun u hu ih => ?_
    · refine zv_go C okX9_rank [129] 20 ?_
      refine ⟨fun _ => ?_, fun h => absurd (nI_le (Nat.le_refl _) (by omega)) h⟩
      exact hend
    · have ec : nI left &&& ((1 : Int32) <<< (nI u &&& 31) ^^^ (-1)) = nI (ndf left (2 ^ u)) := nb_clr _ _ (by omega)
      have hle := ndf_le left (2 ^ u)
      have ein : vp_in (nI left &&& ((1 : Int32) <<< (nI u &&& 31) ^^^ (-1))) 16384 := by rw [ec]; exact vp_in_nI (by omega) (by decide)
      have ecl : (nI left &&& ((1 : Int32) <<< (nI u &&& 31) ^^^ (-1))).toNatClampNeg = ndf left (2 ^ u) := by rw [ec]; exact nI_clamp (by omega)
      refine zv_go C okX9_rank [] 20 ?_
      refine ⟨fun h => absurd h (nI_ge (by omega) (by omega)), fun _ => ?_⟩
      refine zv_callV C (m_mayCome K A n cc Lf (v := u) (s := left) (by omega) (by omega) hn) (zw_V inX9_mayCome kX9_101 ⟨by decide, by decide⟩) [0, 1] 0 rfl rfl rfl rfl (fun _ => Nat.le_refl _) (rest := [.long (msm Lf n GG num left u)]) rfl rfl (Nat.le_of_ble_eq_true rfl) dzX9_rank_97 (by decide) (by decide) rfl (fun _ _ => ?_)
      refine zv_to C rfl rfl (ws' := [mO A n cc, mZ K (A 1) Lf, mJ K (A 3) GG]) rfl ?_
      refine zv_go C okX9_rank [84] 30 ?_
      refine ⟨fun h1 => ?_, fun h1 => ⟨rfl, ⟨rfl, rfl⟩, ein, ?_⟩⟩
      · rw [bI_0] at h1
        exact zv_to C (lv' := [(0, .ref (A 0)), (1, .long row), (3, .long (msm Lf n GG num left (u + 1))), (5, .int (nI left)), (6, .int (nI pl)), (7, .int (nI d)), (8, .int (nI (u + 1)))]) (by rw [msm, h1, ← nI_1 u] <;> rfl) rfl rfl ih
      · rw [bI_1] at h1
        refine zv_to C (lv' := [(0, .ref (A 0)), (1, .long row), (3, .long (msm Lf n GG num left (u + 1))), (5, .int (nI left)), (6, .int (nI pl)), (7, .int (nI d)), (8, .int (nI (u + 1)))]) ?_ rfl rfl ih
        show [_, _, (3, Value.long (msm Lf n GG num left u + GG (nI left &&& ((1 : Int32) <<< (nI u &&& 31) ^^^ (-1))).toNatClampNeg)), _, _, _, (8, Value.int (nI u + 1))] = _
        rw [ecl, msm, if_pos h1, nI_1]
  have loop : ∀ mm (num : Int64) (left : Nat), mm ≤ 16 → left < 2 ^ n → mkF Lf n (foA Lf n g0) row mm num left = mkF Lf n (foA Lf n g0) row 16 0 (2 ^ n - 1) → zv_V x (gz K (zq 2 0 0 80) 9 cX9_rank yX9_rank.cls) 19 [(0, .ref (A 0)), (1, .long row), (3, .long num), (5, .int (nI left)), (6, .int (nI (16 - mm)))] [] [mO A n cc, mZ K (A 1) Lf, mJ K (A 3) (foA Lf n g0)] 0 0 := by
    intro mm
    induction mm with
    | zero =>
      intro num left _ hl hf
      refine zv_go C okX9_rank [] 20 ?_
      refine ⟨fun _ => ?_, fun h => absurd (by decide) h⟩
      exact zr R () [0, 1, 2] (some (.long _)) _ (by rw [← hf] <;> rfl) rfl trivial rfl rfl (Nat.zero_le _) (Nat.zero_le _) dzX9_rank_147
    | succ mm ih =>
      intro num left hm hl hf
      have enx : nI (15 - mm) + 1 = nI (16 - mm) := by rw [nI_1]; congr 1; omega
      have e15 : 16 - (mm + 1) = 15 - mm := by omega
      obtain ⟨d1, d2⟩ := mdt_ok row (15 - mm)
      rw [mkF] at hf
      rw [e15]
      refine zv_go C okX9_rank [39] 20 ?_
      refine ⟨fun h => absurd h (nI_ge (b := 16) (by omega) (by omega)), fun _ => ?_⟩
      refine zv_to C (lv' := [(0, .ref (A 0)), (1, .long row), (3, .long num), (5, .int (nI left)), (6, .int (nI (15 - mm))), (7, .int (nI (mdt row (15 - mm))))]) (by rw [← d1]; unfold mdg; rw [← pk_mul] <;> rfl) rfl rfl ?_
      generalize hdd : mdt row (15 - mm) = d at d2 hf ⊢
      refine zv_go C okX9_rank [140] 20 ?_
      refine ⟨rfl, fun h1 => ⟨rfl, fun h2 => ?_, fun h2 => ?_⟩, fun h1 => ⟨fun h2 => ?_, fun h2 => ?_⟩⟩
      · rw [nI_ltI (by omega) (by omega)] at h1
        have h2 := (nI_leI (by omega) (by omega)).mp h2
        rw [if_neg (by omega), if_neg (fun q => by omega)] at hf
        exact zr R () [0, 1, 2] (some (.long _)) _ (by rw [← hf]) rfl trivial rfl rfl (Nat.zero_le _) (Nat.zero_le _) dzX9_rank_80
      · rw [nI_ltI (by omega) (by omega)] at h1
        have h2 : ¬ n ≤ d := fun z => h2 ((nI_leI (by omega) (by omega)).mpr z)
        rw [if_neg (by omega)] at hf
        refine zv_callV C (m_mayCome K A n cc Lf (v := d) (s := left) (by omega) (by omega) hn) (zw_V inX9_mayCome kX9_101 ⟨by decide, by decide⟩) [0, 1] 0 rfl rfl rfl rfl (fun _ => Nat.le_refl _) rfl rfl (by decide) dzX9_rank_71 (by decide) (by decide) rfl (fun _ _ => ?_)
        refine zv_to C rfl rfl (ws' := [mO A n cc, mZ K (A 1) Lf, mJ K (A 3) (foA Lf n g0)]) rfl ?_
        refine zv_go C okX9_rank [84] 20 ?_
        refine ⟨fun h3 => ?_, fun h3 => ?_⟩
        · rw [bI_1] at h3
          rw [if_pos ⟨by omega, h3⟩] at hf
          refine inner (foA Lf n g0) num left (15 - mm) d hl (by omega) ?_ 0 (Nat.zero_le _)
          refine zv_go C okX9_rank [19] 20 ?_
          refine zv_drop C [0, 1, 2, 3, 4] (lv' := [(0, .ref (A 0)), (1, .long row), (3, .long (msm Lf n (foA Lf n g0) num left d)), (5, .int (nI (ndf left (2 ^ d)))), (6, .int (nI (16 - mm)))]) ?_ ?_
          · rw [← enx, ← nb_clr left d (by omega)]
            rfl
          · exact ih _ _ (by omega) (Nat.lt_of_le_of_lt (ndf_le _ _) hl) hf
        · rw [bI_0] at h3
          rw [if_neg (fun q => by rw [h3] at q; cases q.2)] at hf
          exact zr R () [0, 1, 2] (some (.long _)) _ (by rw [← hf]) rfl trivial rfl rfl (Nat.zero_le _) (Nat.zero_le _) dzX9_rank_80
      · have h1 : n ≤ 15 - mm := by
          refine Nat.le_of_not_lt fun z => h1 ?_
          exact nI_lt z (by omega)
        rw [nb_0 (by omega)] at h2
        rw [if_pos h1, if_pos h2] at hf
        refine zv_go C okX9_rank [19] 20 ?_
        refine zv_drop C [0, 1, 2, 3, 4] (lv' := [(0, .ref (A 0)), (1, .long row), (3, .long num), (5, .int (nI left)), (6, .int (nI (16 - mm)))]) ?_ ?_
        · rw [← enx]
          rfl
        · exact ih _ _ (by omega) hl hf
      · have h1 : n ≤ 15 - mm := by
          refine Nat.le_of_not_lt fun z => h1 ?_
          exact nI_lt z (by omega)
        rw [nb_0 (by omega)] at h2
        rw [if_pos h1, if_neg h2] at hf
        exact zr R () [0, 1, 2] (some (.long _)) _ (by rw [← hf]) rfl trivial rfl rfl (Nat.zero_le _) (Nat.zero_le _) dzX9_rank_56
  refine zv_go C okX9_rank [] 20 ?_
  refine ⟨rfl, ?_⟩
  refine zv_callV C (m_findOrders K A n cc Lf (A 1) g0 hn) (zw_V inX9_findOrders kX9_96 ⟨by decide, by decide⟩) [0, 1, 2] 0 rfl rfl rfl rfl (fun _ => Nat.le_refl _) rfl rfl (by decide) dzX9_rank_5 (by decide) (by decide) rfl (fun _ _ => ?_)
  refine zv_to C rfl rfl (ws' := [mO A n cc, mZ K (A 1) Lf, mJ K (A 3) (foA Lf n g0)]) rfl ?_
  refine zv_go C okX9_rank [] 20 ?_
  refine zv_callV C (m_all K A n cc hn) (zw_V inX9_all kX9_61 ⟨by decide, by decide⟩) [0] 0 rfl rfl rfl rfl (fun _ => Nat.le_refl _) rfl rfl (by decide) dzX9_rank_11 (by decide) (by decide) rfl (fun _ _ => ?_)
  refine zv_to C rfl rfl (ws' := [mO A n cc, mZ K (A 1) Lf, mJ K (A 3) (foA Lf n g0)]) rfl ?_
  refine zv_go C okX9_rank [19] 20 ?_
  exact zv_to C (lv' := [(0, .ref (A 0)), (1, .long row), (3, .long 0), (5, .int (nI (2 ^ n - 1))), (6, .int (nI (16 - 16)))]) rfl rfl rfl (loop 16 0 (2 ^ n - 1) (Nat.le_refl _) (by omega) rfl)
end MF
