/-! THE MODEL: count, findGets, next -/
def idC (Lf : Nat → Bool) (n : Nat) : Nat → Nat
  | 0 => 0
  | k + 1 => idC Lf n k + (allB (fun a => allB (pisIdeal Lf k a) n) n).toNat
section MY
variable (K : zK) (A : Nat → Nat) (n : Nat) (cc : Int32) (Lf : Nat → Bool) (f0 l0 b0 : Nat → Int32)
set_option maxHeartbeats 4000000 in
set_option maxRecDepth 100000 in
theorem m_count_no (v : Int32) (h : v.toInt < 0 ∨ 5 < v.toInt) : zD K yX9_count cX9_count 4 (some .int) (zq 3 0 0 120) [.ref (A 0), .int v] [mO A n cc, mZ K (A 1) Lf, mI K (A 4) 16384 f0, mI K (A 7) 14 l0, mI K (A 8) 14 b0] (some (.int (-1))) [mO A n cc, mZ K (A 1) Lf, mI K (A 4) 16384 f0, mI K (A 7) 14 l0, mI K (A 8) 14 b0] := by
  refine zo (by decide) (Nat.le_of_ble_eq_true rfl) fun x C R _ => ?_
  refine zv_go C okX9_count [] 4 ?_
  refine zv_tabOut C dzX9_count_3 (tgt := 106) rfl h (by decide) ?_
  refine zv_go C okX9_count [] 4 ?_
  exact zr R () [0, 1, 2, 3, 4] (some (.int (-1))) _ rfl rfl trivial rfl rfl (Nat.zero_le _) (Nat.zero_le _) dzX9_count_107
set_option maxHeartbeats 4000000 in
set_option maxRecDepth 100000 in
theorem m_count0  : zD K yX9_count cX9_count 4 (some .int) (zq 3 0 0 120) [.ref (A 0), .int 0] [mO A n cc, mZ K (A 1) Lf, mI K (A 4) 16384 f0, mI K (A 7) 14 l0, mI K (A 8) 14 b0] (some (.int (nI n))) [mO A n cc, mZ K (A 1) Lf, mI K (A 4) 16384 f0, mI K (A 7) 14 l0, mI K (A 8) 14 b0] := by
  refine zo (by decide) (Nat.le_of_ble_eq_true rfl) fun x C R _ => ?_
  refine zv_go C okX9_count [] 4 ?_
  refine zv_tabIn C dzX9_count_3 (v := 0) (off := 37) (tgt := 40) rfl (by decide) (by decide) (by decide) (by decide) ?_
  refine zv_go C okX9_count [] 4 ?_
  refine ⟨rfl, ?_⟩
  exact zr R () [0, 1, 2, 3, 4] (some (.int _)) _ rfl rfl trivial rfl rfl (Nat.zero_le _) (Nat.zero_le _) dzX9_count_44
set_option maxHeartbeats 4000000 in
set_option maxRecDepth 100000 in
theorem m_count1 (hn : n ≤ 14) : zD K yX9_count cX9_count 4 (some .int) (zq 3 0 0 120) [.ref (A 0), .int 1] [mO A n cc, mZ K (A 1) Lf, mI K (A 4) 16384 f0, mI K (A 7) 14 l0, mI K (A 8) 14 b0] (some (.int (nI (mPs Lf n n)))) [mO A n cc, mZ K (A 1) Lf, mI K (A 4) 16384 f0, mI K (A 7) 14 l0, mI K (A 8) 14 b0] := by
  refine zo (by decide) (Nat.le_of_ble_eq_true rfl) fun x C R _ => ?_
  refine zv_go C okX9_count [] 4 ?_
  refine zv_tabIn C dzX9_count_3 (v := 1) (off := 42) (tgt := 45) rfl (by decide) (by decide) (by decide) (by decide) ?_
  refine zv_go C okX9_count [] 4 ?_
  refine zv_callV C (m_pairs K A n cc Lf hn) (zw_V inX9_pairs kX9_50 ⟨by decide, by decide⟩) [0, 1] 0 rfl rfl rfl rfl (fun _ => Nat.le_refl _) rfl rfl (by decide) dzX9_count_46 (by decide) (by decide) rfl (fun _ _ => ?_)
  refine zv_to C rfl rfl (ws' := [mO A n cc, mZ K (A 1) Lf, mI K (A 4) 16384 f0, mI K (A 7) 14 l0, mI K (A 8) 14 b0]) rfl ?_
  refine zv_go C okX9_count [] 4 ?_
  exact zr R () [0, 1, 2, 3, 4] (some (.int _)) _ rfl rfl trivial rfl rfl (Nat.zero_le _) (Nat.zero_le _) dzX9_count_49
set_option maxHeartbeats 4000000 in
set_option maxRecDepth 100000 in
theorem m_count2 (hn : n ≤ 14) : zD K yX9_count cX9_count 4 (some .int) (zq 3 0 0 120) [.ref (A 0), .int 2] [mO A n cc, mZ K (A 1) Lf, mI K (A 4) 16384 f0, mI K (A 7) 14 l0, mI K (A 8) 14 b0] (some (.int (nI (zhF Lf n l0 b0 (2 ^ n - 1)).1))) [mO A n cc, mZ K (A 1) Lf, mI K (A 4) 16384 f0, mI K (A 7) 14 (zhF Lf n l0 b0 (2 ^ n - 1)).2.1, mI K (A 8) 14 (zhF Lf n l0 b0 (2 ^ n - 1)).2.2] := by
  refine zo (by decide) (Nat.le_of_ble_eq_true rfl) fun x C R _ => ?_
  refine zv_go C okX9_count [] 4 ?_
  refine zv_tabIn C dzX9_count_3 (v := 2) (off := 47) (tgt := 50) rfl (by decide) (by decide) (by decide) (by decide) ?_
  refine zv_go C okX9_count [] 4 ?_
  refine zv_callV C (m_findChain K A n cc Lf l0 b0 hn) (zw_V inX9_findChain kX9_78 ⟨by decide, by decide⟩) [0, 1, 3, 4] 0 rfl rfl rfl rfl (fun _ => Nat.le_refl _) rfl rfl (by decide) dzX9_count_51 (by decide) (by decide) rfl (fun _ _ => ?_)
  refine zv_to C rfl rfl (ws' := [mO A n cc, mZ K (A 1) Lf, mI K (A 4) 16384 f0, mI K (A 7) 14 (zhF Lf n l0 b0 (2 ^ n - 1)).2.1, mI K (A 8) 14 (zhF Lf n l0 b0 (2 ^ n - 1)).2.2]) rfl ?_
  refine zv_go C okX9_count [] 4 ?_
  exact zr R () [0, 1, 2, 3, 4] (some (.int _)) _ rfl rfl trivial rfl rfl (Nat.zero_le _) (Nat.zero_le _) dzX9_count_54
set_option maxHeartbeats 4000000 in
set_option maxRecDepth 100000 in
theorem m_count3 (hn : n ≤ 14) : zD K yX9_count cX9_count 4 (some .int) (zq 3 0 0 120) [.ref (A 0), .int 3] [mO A n cc, mZ K (A 1) Lf, mI K (A 4) 16384 f0, mI K (A 7) 14 l0, mI K (A 8) 14 b0] (some (.int (nI (npc 31 (apF Lf n (2 ^ n - 1)))))) [mO A n cc, mZ K (A 1) Lf, mI K (A 4) 16384 f0, mI K (A 7) 14 l0, mI K (A 8) 14 b0] := by
  refine zo (by decide) (Nat.le_of_ble_eq_true rfl) fun x C R _ => ?_
  refine zv_go C okX9_count [] 4 ?_
  refine zv_tabIn C dzX9_count_3 (v := 3) (off := 52) (tgt := 55) rfl (by decide) (by decide) (by decide) (by decide) ?_
  have hal := apF_le Lf n (2 ^ n - 1)
  have hp14 := pow_le14 hn
  refine zv_go C okX9_count [] 4 ?_
  refine zv_callV C (m_apart K A n cc Lf hn) (zw_V inX9_apart kX9_81 ⟨by decide, by decide⟩) [0, 1] 0 rfl rfl rfl rfl (fun _ => Nat.le_refl _) rfl rfl (by decide) dzX9_count_56 (by decide) (by decide) rfl (fun _ _ => ?_)
  refine zv_to C rfl rfl (ws' := [mO A n cc, mZ K (A 1) Lf, mI K (A 4) 16384 f0, mI K (A 7) 14 l0, mI K (A 8) 14 b0]) rfl ?_
  refine zv_go C okX9_count [] 4 ?_
  refine zv_callS C (m_size K (s := apF Lf n (2 ^ n - 1)) (by omega)) (zw_S inX9_size kX9_64 ⟨by decide, by decide⟩) [] rfl rfl (fun _ => Nat.le_refl _) rfl rfl (by decide) dzX9_count_59 (by decide) (by decide) rfl (fun _ _ => ?_)
  refine zv_to C rfl rfl (ws' := [mO A n cc, mZ K (A 1) Lf, mI K (A 4) 16384 f0, mI K (A 7) 14 l0, mI K (A 8) 14 b0]) rfl ?_
  refine zv_go C okX9_count [] 4 ?_
  exact zr R () [0, 1, 2, 3, 4] (some (.int _)) _ rfl rfl trivial rfl rfl (Nat.zero_le _) (Nat.zero_le _) dzX9_count_62
set_option maxHeartbeats 4000000 in
set_option maxRecDepth 100000 in
theorem m_count4 (hn : n ≤ 14) : zD K yX9_count cX9_count 4 (some .int) (zq 3 0 0 120) [.ref (A 0), .int 4] [mO A n cc, mZ K (A 1) Lf, mI K (A 4) 16384 f0, mI K (A 7) 14 l0, mI K (A 8) 14 b0] (some (.int (nI (idC Lf n (2 ^ n))))) [mO A n cc, mZ K (A 1) Lf, mI K (A 4) 16384 f0, mI K (A 7) 14 l0, mI K (A 8) 14 b0] := by
  refine zo (by decide) (Nat.le_of_ble_eq_true rfl) fun x C R _ => ?_
  have hp : 0 < 2 ^ n := Nat.two_pow_pos n
  have hp14 := pow_le14 hn
  have loop : ∀ k, k ≤ 2 ^ n → zv_V x (gz K (zq 3 0 0 120) 4 cX9_count yX9_count.cls) 65 [(0, .ref (A 0)), (1, .int 4), (2, .int (nI (idC Lf n k))), (3, .int (nI k))] [] [mO A n cc, mZ K (A 1) Lf, mI K (A 4) 16384 f0, mI K (A 7) 14 l0, mI K (A 8) 14 b0] 0 0 := by
    refine zl (2 ^ n) ?_ fun k hk ih => ?_
    · refine zv_go C okX9_count [] 20 ?_
      refine zv_callV C (m_all K A n cc hn) (zw_V inX9_all kX9_61 ⟨by decide, by decide⟩) [0] 0 rfl rfl rfl rfl (fun _ => Nat.le_refl _) (rest := [.int (nI (2 ^ n))]) rfl rfl (Nat.le_of_ble_eq_true rfl) dzX9_count_67 (by decide) (by decide) rfl (fun _ _ => ?_)
      refine zv_to C rfl rfl (ws' := [mO A n cc, mZ K (A 1) Lf, mI K (A 4) 16384 f0, mI K (A 7) 14 l0, mI K (A 8) 14 b0]) rfl ?_
      refine zv_go C okX9_count [] 20 ?_
      refine ⟨fun _ => ?_, fun h => absurd (nI_lt (by omega) (by omega)) h⟩
      exact zr R () [0, 1, 2, 3, 4] (some (.int _)) _ rfl rfl trivial rfl rfl (Nat.zero_le _) (Nat.zero_le _) dzX9_count_96
    · refine zv_go C okX9_count [] 20 ?_
      refine zv_callV C (m_all K A n cc hn) (zw_V inX9_all kX9_61 ⟨by decide, by decide⟩) [0] 0 rfl rfl rfl rfl (fun _ => Nat.le_refl _) (rest := [.int (nI k)]) rfl rfl (Nat.le_of_ble_eq_true rfl) dzX9_count_67 (by decide) (by decide) rfl (fun _ _ => ?_)
      refine zv_to C rfl rfl (ws' := [mO A n cc, mZ K (A 1) Lf, mI K (A 4) 16384 f0, mI K (A 7) 14 l0, mI K (A 8) 14 b0]) rfl ?_
      refine zv_go C okX9_count [] 20 ?_
      refine ⟨fun h => absurd h (nI_nlt (by omega) (by omega)), fun _ => ?_⟩
      refine zv_callV C (m_isIdeal K A n cc Lf (s := k) (by omega) hn) (zw_V inX9_isIdeal kX9_84 ⟨by decide, by decide⟩) [0, 1] 0 rfl rfl rfl rfl (fun _ => Nat.le_refl _) (rest := [.int (nI (idC Lf n k))]) rfl rfl (Nat.le_of_ble_eq_true rfl) dzX9_count_76 (by decide) (by decide) rfl (fun _ _ => ?_)
      refine zv_to C rfl rfl (ws' := [mO A n cc, mZ K (A 1) Lf, mI K (A 4) 16384 f0, mI K (A 7) 14 l0, mI K (A 8) 14 b0]) rfl ?_
      refine zv_go C okX9_count [65] 20 ?_
      refine ⟨fun h => ?_, fun h => ?_⟩
      · rw [bI_0] at h
        exact zv_to C (lv' := [(0, .ref (A 0)), (1, .int 4), (2, .int (nI (idC Lf n (k + 1)))), (3, .int (nI (k + 1)))]) (by rw [idC, h, ← nI_add, ← nI_1 k] <;> rfl) rfl rfl ih
      · rw [bI_1] at h
        exact zv_to C (lv' := [(0, .ref (A 0)), (1, .int 4), (2, .int (nI (idC Lf n (k + 1)))), (3, .int (nI (k + 1)))]) (by rw [idC, h, ← nI_add, ← nI_1 k] <;> rfl) rfl rfl ih
  refine zv_go C okX9_count [] 4 ?_
  refine zv_tabIn C dzX9_count_3 (v := 4) (off := 60) (tgt := 63) rfl (by decide) (by decide) (by decide) (by decide) ?_
  refine zv_go C okX9_count [65] 4 ?_
  exact loop 0 (Nat.zero_le _)
set_option maxHeartbeats 4000000 in
set_option maxRecDepth 100000 in
theorem m_count5 (hn : n ≤ 14) : zD K yX9_count cX9_count 4 (some .int) (zq 3 0 0 120) [.ref (A 0), .int 5] [mO A n cc, mZ K (A 1) Lf, mI K (A 4) 16384 f0, mI K (A 7) 14 l0, mI K (A 8) 14 b0] (some (.int (nI (mcN Lf n)))) [mO A n (nI (mcN Lf n)), mZ K (A 1) Lf, mI K (A 4) 16384 (fcA Lf n f0 (2 ^ n)), mI K (A 7) 14 l0, mI K (A 8) 14 b0] := by
  refine zo (by decide) (Nat.le_of_ble_eq_true rfl) fun x C R _ => ?_
  refine zv_go C okX9_count [] 4 ?_
  refine zv_tabIn C dzX9_count_3 (v := 5) (off := 94) (tgt := 97) rfl (by decide) (by decide) (by decide) (by decide) ?_
  refine zv_go C okX9_count [] 4 ?_
  refine zv_callV C (m_findCuts K A n cc Lf f0 hn) (zw_V inX9_findCuts kX9_87 ⟨by decide, by decide⟩) [0, 1, 2] 0 rfl rfl rfl rfl (fun _ => Nat.le_refl _) rfl rfl (by decide) dzX9_count_98 (by decide) (by decide) rfl (fun _ _ => ?_)
  refine zv_to C rfl rfl (ws' := [mO A n (nI (mcN Lf n)), mZ K (A 1) Lf, mI K (A 4) 16384 (fcA Lf n f0 (2 ^ n)), mI K (A 7) 14 l0, mI K (A 8) 14 b0]) rfl ?_
  refine zv_go C okX9_count [] 4 ?_
  refine ⟨rfl, ?_⟩
  exact zr R () [0, 1, 2, 3, 4] (some (.int _)) _ rfl rfl trivial rfl rfl (Nat.zero_le _) (Nat.zero_le _) dzX9_count_105
end MY
def gtU (Lf : Nat → Bool) (v t : Nat) (g : Nat → Nat) : Nat → Nat
  | 0 => g t
  | u + 1 => if gtU Lf v t g u < (if (Lf (16 * v + u) && !t.testBit u) = true then 1 + g (t ||| 2 ^ u) else 0) then (if (Lf (16 * v + u) && !t.testBit u) = true then 1 + g (t ||| 2 ^ u) else 0) else gtU Lf v t g u
def gtL (Lf : Nat → Bool) (n : Nat) : Nat → Nat → Nat
  | 0 => fun _ => 0
  | d + 1 => fun t => gtU Lf (n - (d + 1)) t (gtL Lf n d) n
theorem gtU_le {Lf : Nat → Bool} {v t : Nat} {g : Nat → Nat} {b : Nat} (hg : ∀ t, g t ≤ b) : ∀ u, gtU Lf v t g u ≤ b + 1
  | 0 => Nat.le_trans (hg t) (Nat.le_succ _)
  | u + 1 => by
    have h := gtU_le (Lf := Lf) (v := v) (t := t) hg u
    have h2 := hg (t ||| 2 ^ u)
    unfold gtU
    split
    · split
      · omega
      · omega
    · exact h
theorem gtL_le (Lf : Nat → Bool) (n : Nat) : ∀ d t, gtL Lf n d t ≤ d
  | 0, t => Nat.le_refl _
  | d + 1, t => gtU_le (gtL_le Lf n d) n
theorem nb_gt (v t : Nat) : (16384 : Int32) * nI v + nI t = nI (16384 * v + t) := by
  have e : (16384 : Int32) = nI 16384 := rfl
  rw [e, pk_mul, nI_add]
theorem nb_by : ∀ k, k < 128 → vp_nar .byte (nI k).toInt8.toInt32 = nI k := by decide +kernel
/-- what the row of gets holds when d levels are done -/
def gtV (Lf : Nat → Bool) (n d : Nat) (f : Nat → Int32) : Prop := ∀ e, e ≤ d → ∀ t, t < 2 ^ n → f (16384 * (n - e) + t) = nI (gtL Lf n e t)
section MZ
variable (K : zK) (A : Nat → Nat) (n : Nat) (cc : Int32) (Lf : Nat → Bool)
set_option maxHeartbeats 4000000 in
set_option maxRecDepth 100000 in
theorem m_findGets (f0 : Nat → Int32) (h1 : 1 ≤ n) (hn : n ≤ 14) : zM (S := Nat → Int32) K yX9_findGets cX9_findGets 6 none (zq 1 0 0 40) [.ref (A 0)] [mO A n cc, mZ K (A 1) Lf, mB K (A 6) f0] (fun u => gtV Lf n n u) (fun _ => none) (fun u => [mO A n cc, mZ K (A 1) Lf, mB K (A 6) u]) := by
  refine zo (by decide) (Nat.le_of_ble_eq_true rfl) fun x C R _ => ?_
  have hp : 0 < 2 ^ n := Nat.two_pow_pos n
  have hp14 := pow_le14 hn
  have inner : ∀ d v t (f : Nat → Int32), v + 1 + d = n → t < 2 ^ n → gtV Lf n d f → (∀ lv2 : zv_L, (lv2 = [] ∨ ∃ z, lv2 = [(5, .int z)]) → zv_V x (gz K (zq 1 0 0 40) 6 cX9_findGets yX9_findGets.cls) 144 ([(0, .ref (A 0)), (1, .int (nI v)), (2, .int (nI t)), (3, .int (nI (gtL Lf n (d + 1) t))), (4, .int (nI n))] ++ lv2) [] [mO A n cc, mZ K (A 1) Lf, mB K (A 6) f] 0 0) → ∀ mm u (lv2 : zv_L), u + mm = n → (lv2 = [] ∨ ∃ z, lv2 = [(5, .int z)]) → zv_V x (gz K (zq 1 0 0 40) 6 cX9_findGets yX9_findGets.cls) 70 ([(0, .ref (A 0)), (1, .int (nI v)), (2, .int (nI t)), (3, .int (nI (gtU Lf v t (gtL Lf n d) u))), (4, .int (nI u))] ++ lv2) [] [mO A n cc, mZ K (A 1) Lf, mB K (A 6) f] 0 0 := by
    intro d v t f hvd ht hf hend mm
    induction mm with
    | zero =>
      intro u lv2 hu hl2
      have e : u = n := by omega
      subst e
      have ev : v = u - (d + 1) := by omega
      refine zv_drop C [0, 1, 2, 3, 4] (lv' := [(0, .ref (A 0)), (1, .int (nI v)), (2, .int (nI t)), (3, .int (nI (gtU Lf v t (gtL Lf u d) u))), (4, .int (nI u))]) (by rcases hl2 with rfl | ⟨z, rfl⟩ <;> rfl) ?_
      refine zv_go C okX9_findGets [144] 20 ?_
      refine ⟨rfl, fun _ => ?_, fun h => absurd (nI_le (Nat.le_refl _) (by omega)) h⟩
      refine zv_to C ?_ rfl rfl (hend [] (Or.inl rfl))
      rw [gtL, ← ev]
      rfl
    | succ mm ih =>
      intro u lv2 hu hl2
      refine zv_drop C [0, 1, 2, 3, 4] (lv' := [(0, .ref (A 0)), (1, .int (nI v)), (2, .int (nI t)), (3, .int (nI (gtU Lf v t (gtL Lf n d) u))), (4, .int (nI u))]) (by rcases hl2 with rfl | ⟨z, rfl⟩ <;> rfl) ?_
      have hor : t ||| 2 ^ u < 2 ^ n := nb_lt_or ht (nb_lt_pow (by omega))
      have gub := gtU_le (Lf := Lf) (v := v) (t := t) (gtL_le Lf n d) u
      have gob := gtL_le Lf n d (t ||| 2 ^ u)
      have e1 : (16384 : Int32) * (nI v + 1) + (nI t ||| (1 : Int32) <<< (nI u &&& 31)) = nI (16384 * (v + 1) + (t ||| 2 ^ u)) := by rw [nb_1s u (by omega), nb_or, nI_1, nb_gt]
      have i1 : vp_in ((16384 : Int32) * (nI v + 1) + (nI t ||| (1 : Int32) <<< (nI u &&& 31))) 245760 := by rw [e1]; exact vp_in_nI (by omega) (by decide)
      have r1 : f ((16384 : Int32) * (nI v + 1) + (nI t ||| (1 : Int32) <<< (nI u &&& 31))).toNatClampNeg = nI (gtL Lf n d (t ||| 2 ^ u)) := by
        rw [e1, nI_clamp (by omega)]
        have := hf d (Nat.le_refl _) _ hor
        rw [show n - d = v + 1 by omega] at this
        exact this
      have join : ∀ w, w = (if (Lf (16 * v + u) && !t.testBit u) = true then 1 + gtL Lf n d (t ||| 2 ^ u) else 0) → zv_V x (gz K (zq 1 0 0 40) 6 cX9_findGets yX9_findGets.cls) 123 [(0, .ref (A 0)), (1, .int (nI v)), (2, .int (nI t)), (3, .int (nI (gtU Lf v t (gtL Lf n d) u))), (4, .int (nI u))] [.int (nI w)] [mO A n cc, mZ K (A 1) Lf, mB K (A 6) f] 0 0 := by
        intro w hw
        have hwb : w ≤ d + 1 := by
          rw [hw]
          split <;> omega
        have eg : gtU Lf v t (gtL Lf n d) (u + 1) = if gtU Lf v t (gtL Lf n d) u < w then w else gtU Lf v t (gtL Lf n d) u := by rw [gtU, ← hw]
        refine zv_go C okX9_findGets [70] 20 ?_
        refine ⟨fun h => ?_, fun h => ?_⟩
        · rw [nI_leI (by omega) (by omega)] at h
          rw [if_neg (by omega)] at eg
          refine zv_to C (lv' := [(0, .ref (A 0)), (1, .int (nI v)), (2, .int (nI t)), (3, .int (nI (gtU Lf v t (gtL Lf n d) (u + 1)))), (4, .int (nI (u + 1)))] ++ [(5, .int (nI w))]) ?_ rfl rfl (ih (u + 1) [_] (by omega) (Or.inr ⟨_, rfl⟩))
          rw [eg, ← nI_1 u]
          rfl
        · have h : gtU Lf v t (gtL Lf n d) u < w := Nat.lt_of_not_le fun z => h (nI_le z (by omega))
          rw [if_pos h] at eg
          refine zv_to C (lv' := [(0, .ref (A 0)), (1, .int (nI v)), (2, .int (nI t)), (3, .int (nI (gtU Lf v t (gtL Lf n d) (u + 1)))), (4, .int (nI (u + 1)))] ++ [(5, .int (nI w))]) ?_ rfl rfl (ih (u + 1) [_] (by omega) (Or.inr ⟨_, rfl⟩))
          rw [eg, ← nI_1 u]
          rfl
      refine zv_go C okX9_findGets [] 20 ?_
      refine ⟨rfl, fun h => absurd h (nI_ge (by omega) (by omega)), fun _ => ?_⟩
      refine zv_callV C (m_is K A n cc Lf (a := v) (b := u) (by omega)) (zw_V inX9_is kX9_46 ⟨by decide, by decide⟩) [0, 1] 0 rfl rfl rfl rfl (fun _ => Nat.le_refl _) rfl rfl (by decide) dzX9_findGets_83 (by decide) (by decide) rfl (fun _ _ => ?_)
      refine zv_to C rfl rfl (ws' := [mO A n cc, mZ K (A 1) Lf, mB K (A 6) f]) rfl ?_
      refine zv_go C okX9_findGets [123] 20 ?_
      refine ⟨fun h2 => ?_, fun h2 => ?_⟩
      · rw [bI_0] at h2
        exact join 0 (by rw [h2]; rfl)
      rw [bI_1] at h2
      refine zv_callS C (m_isIn K (s := t) (v := u) (by omega) (by omega)) (zw_S inX9_isIn kX9_58 ⟨by decide, by decide⟩) [] rfl rfl (fun _ => Nat.le_refl _) rfl rfl (by decide) dzX9_findGets_92 (by decide) (by decide) rfl (fun _ _ => ?_)
      refine zv_to C rfl rfl (ws' := [mO A n cc, mZ K (A 1) Lf, mB K (A 6) f]) rfl ?_
      refine zv_go C okX9_findGets [123] 30 ?_
      refine ⟨fun h3 => ?_, fun h3 => ⟨rfl, ⟨rfl, rfl⟩, i1, ?_⟩⟩
      · rw [bI_1] at h3
        exact join 0 (by rw [h3]; simp)
      · rw [bI_0] at h3
        refine zv_to C rfl (st' := [.int (nI (1 + gtL Lf n d (t ||| 2 ^ u)))]) ?_ rfl (join _ (by rw [h2, h3]; rfl))
        show [Value.int (1 + f ((16384 : Int32) * (nI v + 1) + (nI t ||| (1 : Int32) <<< (nI u &&& 31))).toNatClampNeg)] = _
        rw [r1, ← nI_add]
        rfl
  have mid : ∀ d v, v + 1 + d = n → (∀ f, gtV Lf n (d + 1) f → zv_V x (gz K (zq 1 0 0 40) 6 cX9_findGets yX9_findGets.cls) 164 [(0, .ref (A 0)), (1, .int (nI v)), (2, .int (nI (2 ^ n)))] [] [mO A n cc, mZ K (A 1) Lf, mB K (A 6) f] 0 0) → ∀ mm t (f : Nat → Int32), t + mm = 2 ^ n → gtV Lf n d f → (∀ s, s < t → f (16384 * v + s) = nI (gtL Lf n (d + 1) s)) → zv_V x (gz K (zq 1 0 0 40) 6 cX9_findGets yX9_findGets.cls) 44 [(0, .ref (A 0)), (1, .int (nI v)), (2, .int (nI t))] [] [mO A n cc, mZ K (A 1) Lf, mB K (A 6) f] 0 0 := by
    intro d v hvd hend mm
    induction mm with
    | zero =>
      intro t f ht hf hf2
      have e : t = 2 ^ n := by omega
      subst e
      refine zv_go C okX9_findGets [] 20 ?_
      refine zv_callV C (m_all K A n cc hn) (zw_V inX9_all kX9_61 ⟨by decide, by decide⟩) [0] 0 rfl rfl rfl rfl (fun _ => Nat.le_refl _) (rest := [.int (nI (2 ^ n))]) rfl rfl (Nat.le_of_ble_eq_true rfl) dzX9_findGets_46 (by decide) (by decide) rfl (fun _ _ => ?_)
      refine zv_to C rfl rfl (ws' := [mO A n cc, mZ K (A 1) Lf, mB K (A 6) f]) rfl ?_
      refine zv_go C okX9_findGets [164] 20 ?_
      refine ⟨fun _ => ?_, fun h => absurd (nI_lt (by omega) (by omega)) h⟩
      refine hend f fun e he s hs => ?_
      by_cases h : e ≤ d
      · exact hf e h s hs
      · have e2 : e = d + 1 := by omega
        subst e2
        rw [show n - (d + 1) = v by omega]
        exact hf2 s hs
    | succ mm ih =>
      intro t f ht hf hf2
      have gb := gtL_le Lf n (d + 1) t
      have e0 : (16384 : Int32) * (nI v + 1) + nI t = nI (16384 * (v + 1) + t) := by rw [nI_1, nb_gt]
      have i0 : vp_in ((16384 : Int32) * (nI v + 1) + nI t) 245760 := by rw [e0]; exact vp_in_nI (by omega) (by decide)
      have r0 : f ((16384 : Int32) * (nI v + 1) + nI t).toNatClampNeg = nI (gtL Lf n d t) := by
        rw [e0, nI_clamp (by omega)]
        have := hf d (Nat.le_refl _) t (by omega)
        rw [show n - d = v + 1 by omega] at this
        exact this
      have i2 : vp_in ((16384 : Int32) * nI v + nI t) 245760 := by rw [nb_gt]; exact vp_in_nI (by omega) (by decide)
      refine zv_go C okX9_findGets [] 20 ?_
      refine zv_callV C (m_all K A n cc hn) (zw_V inX9_all kX9_61 ⟨by decide, by decide⟩) [0] 0 rfl rfl rfl rfl (fun _ => Nat.le_refl _) (rest := [.int (nI t)]) rfl rfl (Nat.le_of_ble_eq_true rfl) dzX9_findGets_46 (by decide) (by decide) rfl (fun _ _ => ?_)
      refine zv_to C rfl rfl (ws' := [mO A n cc, mZ K (A 1) Lf, mB K (A 6) f]) rfl ?_
      refine zv_go C okX9_findGets [70] 30 ?_
      refine ⟨fun h => absurd h (nI_nlt (by omega) (by omega)), fun _ => ⟨rfl, ⟨rfl, rfl⟩, i0, ?_⟩⟩
      refine zv_to C (lv' := [(0, .ref (A 0)), (1, .int (nI v)), (2, .int (nI t)), (3, .int (nI (gtU Lf v t (gtL Lf n d) 0))), (4, .int (nI 0))] ++ []) ?_ rfl rfl (inner d v t f hvd (by omega) hf ?_ n 0 [] (by omega) (Or.inl rfl))
      · show [_, _, _, (3, Value.int (f ((16384 : Int32) * (nI v + 1) + nI t).toNatClampNeg)), _] = _
        rw [r0]
        rfl
      · intro lv2 hl2
        refine zv_drop C [0, 1, 2, 3] (lv' := [(0, .ref (A 0)), (1, .int (nI v)), (2, .int (nI t)), (3, .int (nI (gtL Lf n (d + 1) t)))]) (by rcases hl2 with rfl | ⟨z, rfl⟩ <;> rfl) ?_
        refine zv_go C okX9_findGets [44] 20 ?_
        refine ⟨rfl, ⟨rfl, rfl⟩, i2, ?_⟩
        refine zv_drop C [0, 1, 2] (lv' := [(0, .ref (A 0)), (1, .int (nI v)), (2, .int (nI (t + 1)))]) (by rw [← nI_1 t] <;> rfl) ?_
        refine ih (t + 1) (upd f ((16384 : Int32) * nI v + nI t).toNatClampNeg (vp_nar .byte (nI (gtL Lf n (d + 1) t)).toInt8.toInt32)) (by omega) ?_ ?_
        · rw [nb_gt, nI_clamp (by omega)]
          intro e he s hs
          rw [pk_un (by have : 16384 * (v + 1) ≤ 16384 * (n - e) := Nat.mul_le_mul_left _ (by omega); omega)]
          exact hf e he s hs
        · rw [nb_gt, nI_clamp (by omega), nb_by _ (by omega)]
          intro s hs
          by_cases hst : s = t
          · rw [hst, pk_us]
          · rw [pk_un (by omega)]
            exact hf2 s (by omega)
  have outer : ∀ v d (f : Nat → Int32), v + d = n → gtV Lf n d f → zv_V x (gz K (zq 1 0 0 40) 6 cX9_findGets yX9_findGets.cls) 38 [(0, .ref (A 0)), (1, .int (nI v - 1))] [] [mO A n cc, mZ K (A 1) Lf, mB K (A 6) f] 0 0 := by
    intro v
    induction v with
    | zero =>
      intro d f hd hf
      have e : d = n := by omega
      subst e
      refine zv_go C okX9_findGets [] 20 ?_
      refine ⟨fun _ => ?_, fun h => absurd (by decide) h⟩
      exact zr R f [0, 1, 2] none _ rfl rfl hf rfl rfl (Nat.zero_le _) (Nat.zero_le _) dzX9_findGets_170
    | succ v ih =>
      intro d f hd hf
      refine zv_to C (lv' := [(0, .ref (A 0)), (1, .int (nI v))]) (by rw [nI_pred]) rfl rfl ?_
      refine zv_go C okX9_findGets [44] 20 ?_
      refine ⟨fun h => absurd h (nI_nlt (b := 0) (Nat.zero_le _) (by omega)), fun _ => ?_⟩
      refine mid d v (by omega) (fun f2 hf2 => ?_) (2 ^ n) 0 f (by omega) hf (fun s hs => absurd hs (Nat.not_lt_zero _))
      refine zv_go C okX9_findGets [38] 20 ?_
      refine zv_drop C [0, 1] (lv' := [(0, .ref (A 0)), (1, .int (nI v - 1))]) (by rw [Int32.sub_eq_add_neg] <;> rfl) ?_
      exact ih (d + 1) f2 (by omega) hf2
  have first : ∀ mm k (f : Nat → Int32), k + mm = 16384 → (∀ t, t < k → f (16384 * n + t) = 0) → zv_V x (gz K (zq 1 0 0 40) 6 cX9_findGets yX9_findGets.cls) 2 [(0, .ref (A 0)), (1, .int (nI k))] [] [mO A n cc, mZ K (A 1) Lf, mB K (A 6) f] 0 0 := by
    intro mm
    induction mm with
    | zero =>
      intro k f hk hf
      have e : k = 16384 := by omega
      subst e
      refine zv_go C okX9_findGets [38] 20 ?_
      refine ⟨fun _ => ⟨rfl, ?_⟩, fun h => absurd (by decide) h⟩
      refine outer n 0 f (by omega) (fun e he t ht => ?_)
      have e0 : e = 0 := by omega
      subst e0
      rw [Nat.sub_zero, hf t (by omega)]
      rfl
    | succ mm ih =>
      intro k f hk hf
      have i2 : vp_in ((16384 : Int32) * nI n + nI k) 245760 := by rw [nb_gt]; exact vp_in_nI (by omega) (by decide)
      refine zv_go C okX9_findGets [2] 20 ?_
      refine ⟨fun h => absurd h (nI_ge (b := 16384) (by omega) (by omega)), fun _ => ⟨rfl, rfl, ⟨rfl, rfl⟩, i2, ?_⟩⟩
      refine zv_to C (lv' := [(0, .ref (A 0)), (1, .int (nI (k + 1)))]) (by rw [← nI_1 k] <;> rfl) rfl rfl (ih (k + 1) _ (by omega) ?_)
      rw [nb_gt, nI_clamp (by omega)]
      intro t ht
      by_cases e : t = k
      · rw [e, pk_us]; decide
      · rw [pk_un (by omega)]; exact hf t (by omega)
  refine zv_go C okX9_findGets [2] 20 ?_
  exact first 16384 0 f0 (by omega) (fun t ht => absurd ht (Nat.not_lt_zero _))
def nxC (Lf : Nat → Bool) (n x t : Nat) (due : Int32) (u : Nat) : Bool := Lf (16 * x + u) && (!t.testBit u && decide (nI (1 + gtL Lf n (n - (x + 1)) (t ||| 2 ^ u)) = due))
def nxU (Lf : Nat → Bool) (n x t : Nat) (due : Int32) : Nat → Option Nat
  | 0 => none
  | j + 1 => if nxC Lf n x t due (n - (j + 1)) = true then some (n - (j + 1)) else nxU Lf n x t due j
theorem nxU_lt {Lf : Nat → Bool} {n x t : Nat} {due : Int32} : ∀ j u, nxU Lf n x t due j = some u → j ≤ n → u < n
  | 0, u, h, _ => by cases h
  | j + 1, u, h, hj => by
    unfold nxU at h
    split at h
    · cases h; omega
    · exact nxU_lt j u h (by omega)
def nxW (Lf : Nat → Bool) (n x : Nat) (σ : Nat × Int32 × Option Nat) : Nat × Int32 × Option Nat := match nxU Lf n x σ.1 σ.2.1 n with
  | none => (σ.1, σ.2.1, none)
  | some u => (σ.1 ||| 2 ^ u, σ.2.1 + (-1), some u)
def nxX (Lf : Nat → Bool) (n : Nat) (D : Int32) : Nat → Nat × Int32 × Option Nat
  | 0 => (0, D, none)
  | x + 1 => nxW Lf n x (nxX Lf n D x)
theorem nxX_lt (Lf : Nat → Bool) (n : Nat) (D : Int32) : ∀ x, (nxX Lf n D x).1 < 2 ^ n
  | 0 => Nat.two_pow_pos n
  | x + 1 => by
    have h := nxX_lt Lf n D x
    unfold nxX nxW
    split
    · exact h
    · rename_i u hu
      exact nb_lt_or h (nb_lt_pow (nxU_lt n u hu (Nat.le_refl _)))
set_option maxHeartbeats 4000000 in
set_option maxRecDepth 100000 in
theorem m_next_no (f0 : Nat → Int32) (a : Int32) (h : hasb n a = false) : zD K yX9_next cX9_next 8 (some .int) (zq 3 0 0 120) [.ref (A 0), .int a] [mO A n cc, mZ K (A 1) Lf, mB K (A 6) f0] (some (.int (-1))) [mO A n cc, mZ K (A 1) Lf, mB K (A 6) f0] := by
  refine zo (by decide) (Nat.le_of_ble_eq_true rfl) fun x C R _ => ?_
  refine zv_go C okX9_next [] 20 ?_
  refine zv_callV C (m_has K A n cc a) (zw_V inX9_has kX9_42 ⟨by decide, by decide⟩) [0] 0 rfl rfl rfl rfl (fun _ => Nat.le_refl _) rfl rfl (by decide) dzX9_next_2 (by decide) (by decide) rfl (fun _ _ => ?_)
  refine zv_to C rfl rfl (ws' := [mO A n cc, mZ K (A 1) Lf, mB K (A 6) f0]) rfl ?_
  refine zv_go C okX9_next [10] 20 ?_
  refine ⟨fun h1 => ?_, fun h1 => ?_⟩
  · rw [bI_1, h] at h1; cases h1
  · exact zr R () [0, 1, 2] (some (.int (-1))) _ rfl rfl trivial rfl rfl (Nat.zero_le _) (Nat.zero_le _) dzX9_next_9
set_option maxHeartbeats 4000000 in
set_option maxRecDepth 100000 in
theorem m_next {v : Nat} (f0 : Nat → Int32) (hv : v < n) (hn : n ≤ 14) : zM (S := Nat → Int32) K yX9_next cX9_next 8 (some .int) (zq 3 0 0 120) [.ref (A 0), .int (nI v)] [mO A n cc, mZ K (A 1) Lf, mB K (A 6) f0] (fun _ => True) (fun _ => some (.int (oI (nxX Lf n (nI n - nI (npc 31 (apF Lf n (2 ^ n - 1)))) (v + 1)).2.2))) (fun u => [mO A n cc, mZ K (A 1) Lf, mB K (A 6) u]) := by
  refine zo (by decide) (Nat.le_of_ble_eq_true rfl) fun x C R _ => ?_
  have hp : 0 < 2 ^ n := Nat.two_pow_pos n
  have hp14 := pow_le14 hn
  have inner : ∀ (f : Nat → Int32) (due : Int32) (t xx : Nat), gtV Lf n n f → t < 2 ^ n → xx < n → (∀ (lv2 : zv_L), (lv2 = [] ∨ ∃ z w, lv2 = [(6, .int z)] ∨ lv2 = [(6, .int z), (7, .int w)]) → zv_V x (gz K (zq 3 0 0 120) 8 cX9_next yX9_next.cls) 130 ([(0, .ref (A 0)), (1, .int (nI v)), (2, .int due), (3, .int (nI t)), (4, .int (oI (nxU Lf n xx t due n))), (5, .int (nI xx))] ++ lv2) [] [mO A n cc, mZ K (A 1) Lf, mB K (A 6) f] 0 0) → ∀ mm j (lv2 : zv_L), j + mm = n → (lv2 = [] ∨ ∃ z, lv2 = [(7, .int z)]) → zv_V x (gz K (zq 3 0 0 120) 8 cX9_next yX9_next.cls) 52 ([(0, .ref (A 0)), (1, .int (nI v)), (2, .int due), (3, .int (nI t)), (4, .int (oI (nxU Lf n xx t due j))), (5, .int (nI xx)), (6, .int (nI mm - 1))] ++ lv2) [] [mO A n cc, mZ K (A 1) Lf, mB K (A 6) f] 0 0 := by
    intro f due t xx hf ht hxx hend mm
    induction mm with
    | zero =>
      intro j lv2 hj hl2
      have e : j = n := by omega
      subst e
      refine zv_drop C [0, 1, 2, 3, 4, 5, 6] (lv' := [(0, .ref (A 0)), (1, .int (nI v)), (2, .int due), (3, .int (nI t)), (4, .int (oI (nxU Lf j xx t due j))), (5, .int (nI xx)), (6, .int (nI 0 - 1))]) (by rcases hl2 with rfl | ⟨z, rfl⟩ <;> rfl) ?_
      refine zv_go C okX9_next [130] 20 ?_
      refine ⟨fun _ => ?_, fun h => absurd (by decide) h⟩
      exact hend [_] (Or.inr ⟨_, 0, Or.inl rfl⟩)
    | succ u ih =>
      intro j lv2 hj hl2
      have eu : n - (j + 1) = u := by omega
      have hor : t ||| 2 ^ u < 2 ^ n := nb_lt_or ht (nb_lt_pow (by omega))
      have e1 : (16384 : Int32) * (nI xx + 1) + (nI t ||| (1 : Int32) <<< (nI u &&& 31)) = nI (16384 * (xx + 1) + (t ||| 2 ^ u)) := by rw [nb_1s u (by omega), nb_or, nI_1, nb_gt]
      have i1 : vp_in ((16384 : Int32) * (nI xx + 1) + (nI t ||| (1 : Int32) <<< (nI u &&& 31))) 245760 := by rw [e1]; exact vp_in_nI (by omega) (by decide)
      have r1 : 1 + f ((16384 : Int32) * (nI xx + 1) + (nI t ||| (1 : Int32) <<< (nI u &&& 31))).toNatClampNeg = nI (1 + gtL Lf n (n - (xx + 1)) (t ||| 2 ^ u)) := by
        rw [e1, nI_clamp (by omega)]
        have := hf (n - (xx + 1)) (by omega) _ hor
        rw [show n - (n - (xx + 1)) = xx + 1 by omega] at this
        rw [this, ← nI_add]
        rfl
      refine zv_drop C [0, 1, 2, 3, 4, 5, 6] (lv' := [(0, .ref (A 0)), (1, .int (nI v)), (2, .int due), (3, .int (nI t)), (4, .int (oI (nxU Lf n xx t due j))), (5, .int (nI xx)), (6, .int (nI u))]) (by rw [← nI_pred u]; rcases hl2 with rfl | ⟨z, rfl⟩ <;> rfl) ?_
      have join : ∀ b, b = nxC Lf n xx t due u → zv_V x (gz K (zq 3 0 0 120) 8 cX9_next yX9_next.cls) 108 [(0, .ref (A 0)), (1, .int (nI v)), (2, .int due), (3, .int (nI t)), (4, .int (oI (nxU Lf n xx t due j))), (5, .int (nI xx)), (6, .int (nI u))] [.int (bI b)] [mO A n cc, mZ K (A 1) Lf, mB K (A 6) f] 0 0 := by
        intro b hb
        have en : nxU Lf n xx t due (j + 1) = if b = true then some u else nxU Lf n xx t due j := by rw [nxU, eu, hb]
        refine zv_go C okX9_next [52] 20 ?_
        refine ⟨fun h => ?_, fun h => ?_⟩
        · rw [bI_0] at h
          rw [if_neg (by rw [h]; simp)] at en
          refine zv_to C (lv' := [(0, .ref (A 0)), (1, .int (nI v)), (2, .int due), (3, .int (nI t)), (4, .int (oI (nxU Lf n xx t due (j + 1)))), (5, .int (nI xx)), (6, .int (nI u - 1))] ++ [(7, .int (bI b))]) ?_ rfl rfl (ih (j + 1) [_] (by omega) (Or.inr ⟨_, rfl⟩))
          rw [en, Int32.sub_eq_add_neg]
          rfl
        · rw [bI_1] at h
          rw [if_pos h] at en
          refine zv_to C (lv' := [(0, .ref (A 0)), (1, .int (nI v)), (2, .int due), (3, .int (nI t)), (4, .int (oI (nxU Lf n xx t due (j + 1)))), (5, .int (nI xx)), (6, .int (nI u - 1))] ++ [(7, .int (bI b))]) ?_ rfl rfl (ih (j + 1) [_] (by omega) (Or.inr ⟨_, rfl⟩))
          rw [en, Int32.sub_eq_add_neg]
          rfl
      refine zv_go C okX9_next [] 20 ?_
      refine ⟨fun h => absurd h (nI_nlt (b := 0) (Nat.zero_le _) (by omega)), fun _ => ?_⟩
      refine zv_callV C (m_is K A n cc Lf (a := xx) (b := u) (by omega)) (zw_V inX9_is kX9_46 ⟨by decide, by decide⟩) [0, 1] 0 rfl rfl rfl rfl (fun _ => Nat.le_refl _) rfl rfl (by decide) dzX9_next_62 (by decide) (by decide) rfl (fun _ _ => ?_)
      refine zv_to C rfl rfl (ws' := [mO A n cc, mZ K (A 1) Lf, mB K (A 6) f]) rfl ?_
      refine zv_go C okX9_next [108] 20 ?_
      refine ⟨fun h2 => ?_, fun h2 => ?_⟩
      · rw [bI_0] at h2
        exact join false (by unfold nxC; rw [h2]; rfl)
      rw [bI_1] at h2
      refine zv_callS C (m_isIn K (s := t) (v := u) (by omega) (by omega)) (zw_S inX9_isIn kX9_58 ⟨by decide, by decide⟩) [] rfl rfl (fun _ => Nat.le_refl _) rfl rfl (by decide) dzX9_next_71 (by decide) (by decide) rfl (fun _ _ => ?_)
      refine zv_to C rfl rfl (ws' := [mO A n cc, mZ K (A 1) Lf, mB K (A 6) f]) rfl ?_
      refine zv_go C okX9_next [108] 30 ?_
      refine ⟨fun h3 => ?_, fun h3 => ⟨rfl, ⟨rfl, rfl⟩, i1, fun h4 => ?_, fun h4 => ?_⟩⟩
      · rw [bI_1] at h3
        exact join false (by unfold nxC; rw [h3]; simp)
      · rw [bI_0] at h3
        have h4 : ¬ 1 + f ((16384 : Int32) * (nI xx + 1) + (nI t ||| (1 : Int32) <<< (nI u &&& 31))).toNatClampNeg = due := h4
        rw [r1] at h4
        exact join false (by unfold nxC; rw [decide_eq_false h4]; simp)
      · rw [bI_0] at h3
        have h4 : 1 + f ((16384 : Int32) * (nI xx + 1) + (nI t ||| (1 : Int32) <<< (nI u &&& 31))).toNatClampNeg = due := h4
        rw [r1] at h4
        exact join true (by unfold nxC; rw [h2, h3, decide_eq_true h4]; rfl)
  have loop : ∀ (f : Nat → Int32), gtV Lf n n f → ∀ xx, xx ≤ v + 1 → zv_V x (gz K (zq 3 0 0 120) 8 cX9_next yX9_next.cls) 35 [(0, .ref (A 0)), (1, .int (nI v)), (2, .int (nxX Lf n (nI n - nI (npc 31 (apF Lf n (2 ^ n - 1)))) xx).2.1), (3, .int (nI (nxX Lf n (nI n - nI (npc 31 (apF Lf n (2 ^ n - 1)))) xx).1)), (4, .int (oI (nxX Lf n (nI n - nI (npc 31 (apF Lf n (2 ^ n - 1)))) xx).2.2)), (5, .int (nI xx))] [] [mO A n cc, mZ K (A 1) Lf, mB K (A 6) f] 0 0 := by
    intro f hf
    refine zl (v + 1) ?_ fun xx hxx ih => ?_
    · refine zv_go C okX9_next [] 20 ?_
      refine ⟨fun _ => ?_, fun h => absurd (nI_lt (by omega) (by omega)) h⟩
      exact zr R f [0, 1, 2] (some (.int _)) _ rfl rfl trivial rfl rfl (Nat.zero_le _) (Nat.zero_le _) dzX9_next_154
    · have hlt := nxX_lt Lf n (nI n - nI (npc 31 (apF Lf n (2 ^ n - 1)))) xx
      have enx : nxX Lf n (nI n - nI (npc 31 (apF Lf n (2 ^ n - 1)))) (xx + 1) = nxW Lf n xx (nxX Lf n (nI n - nI (npc 31 (apF Lf n (2 ^ n - 1)))) xx) := rfl
      rw [enx] at ih
      generalize nxX Lf n (nI n - nI (npc 31 (apF Lf n (2 ^ n - 1)))) xx = σ at hlt ih ⊢
      have enp : nI n - 1 = nI n - 1 := rfl
      refine zv_go C okX9_next [52] 20 ?_
      refine ⟨fun h => absurd h (nI_nlt (by omega) (by omega)), fun _ => ⟨rfl, ?_⟩⟩
      refine inner f σ.2.1 σ.1 xx hf hlt (by omega) ?_ n 0 [] (by omega) (Or.inl rfl)
      intro lv2 hl2
      refine zv_drop C [0, 1, 2, 3, 4, 5] (lv' := [(0, .ref (A 0)), (1, .int (nI v)), (2, .int σ.2.1), (3, .int (nI σ.1)), (4, .int (oI (nxU Lf n xx σ.1 σ.2.1 n))), (5, .int (nI xx))]) (by rcases hl2 with rfl | ⟨z, w, rfl | rfl⟩ <;> rfl) ?_
      unfold nxW at ih
      cases hu : nxU Lf n xx σ.1 σ.2.1 n with
      | none =>
        rw [hu] at ih
        refine zv_go C okX9_next [35] 20 ?_
        refine ⟨fun _ => ?_, fun h => absurd rfl h⟩
        exact zv_to C (lv' := [(0, .ref (A 0)), (1, .int (nI v)), (2, .int σ.2.1), (3, .int (nI σ.1)), (4, .int (oI none)), (5, .int (nI (xx + 1)))]) (by rw [← nI_1 xx] <;> rfl) rfl rfl ih
      | some u =>
        rw [hu] at ih
        have hul := nxU_lt n u hu (Nat.le_refl _)
        refine zv_go C okX9_next [35] 20 ?_
        refine ⟨fun h => ?_, fun h => ?_⟩
        · have h : nI u = -1 := h
          exact absurd h (fun q => absurd (show ¬ (-1 : Int32) < 0 from q ▸ nI_nlt (b := 0) (Nat.zero_le _) (by omega)) (by decide))
        · refine zv_to C (lv' := [(0, .ref (A 0)), (1, .int (nI v)), (2, .int (σ.2.1 + (-1))), (3, .int (nI (σ.1 ||| 2 ^ u))), (4, .int (oI (some u))), (5, .int (nI (xx + 1)))]) ?_ rfl rfl ih
          rw [← nI_1 xx, ← nb_or, ← nb_1s u (by omega)]
          rfl
  have hal := apF_le Lf n (2 ^ n - 1)
  refine zv_go C okX9_next [] 20 ?_
  refine zv_callV C (m_has K A n cc (nI v)) (zw_V inX9_has kX9_42 ⟨by decide, by decide⟩) [0] 0 rfl rfl rfl rfl (fun _ => Nat.le_refl _) rfl rfl (by decide) dzX9_next_2 (by decide) (by decide) rfl (fun _ _ => ?_)
  refine zv_to C rfl rfl (ws' := [mO A n cc, mZ K (A 1) Lf, mB K (A 6) f0]) rfl ?_
  refine zv_go C okX9_next [10] 20 ?_
  refine ⟨fun h1 => ?_, fun h1 => ?_⟩
  rotate_left
  · rw [bI_0, hasb_nI (by omega) (by omega), decide_eq_false_iff_not] at h1; exact absurd hv h1
  refine zv_go C okX9_next [] 20 ?_
  refine zv_callV C (m_findGets K A n cc Lf f0 (by omega) hn) (zw_V inX9_findGets kX9_93 ⟨by decide, by decide⟩) [0, 1, 2] 0 rfl rfl rfl rfl (fun _ => Nat.le_refl _) rfl rfl (by decide) dzX9_next_11 (by decide) (by decide) rfl (fun f hf => ?_)
  refine zv_to C rfl rfl (ws' := [mO A n cc, mZ K (A 1) Lf, mB K (A 6) f]) rfl ?_
  refine zv_go C okX9_next [] 20 ?_
  refine ⟨rfl, ?_⟩
  refine zv_callV C (m_apart K A n cc Lf hn) (zw_V inX9_apart kX9_81 ⟨by decide, by decide⟩) [0, 1] 0 rfl rfl rfl rfl (fun _ => Nat.le_refl _) (rest := [.int (nI n)]) rfl rfl (Nat.le_of_ble_eq_true rfl) dzX9_next_19 (by decide) (by decide) rfl (fun _ _ => ?_)
  refine zv_to C rfl rfl (ws' := [mO A n cc, mZ K (A 1) Lf, mB K (A 6) f]) rfl ?_
  refine zv_go C okX9_next [] 20 ?_
  refine zv_callS C (m_size K (s := apF Lf n (2 ^ n - 1)) (by omega)) (zw_S inX9_size kX9_64 ⟨by decide, by decide⟩) [] rfl rfl (fun _ => Nat.le_refl _) (rest := [.int (nI n)]) rfl rfl (Nat.le_of_ble_eq_true rfl) dzX9_next_22 (by decide) (by decide) rfl (fun _ _ => ?_)
  refine zv_to C rfl rfl (ws' := [mO A n cc, mZ K (A 1) Lf, mB K (A 6) f]) rfl ?_
  refine zv_go C okX9_next [35] 20 ?_
  exact loop f hf 0 (Nat.zero_le _)
end MZ
