/-! THE LAW: its loop -/
theorem la_more {L t : Nat} (hL : L ≤ 2048) (ht : t ≤ 512) : nI L - 4 < nI (4 * t) ↔ L < 4 * t + 4 := by
  by_cases h : 4 ≤ L
  · have e : nI L - 4 = nI (L - 4) := pk_sub (a := L) (b := 4) h
    rw [e, nI_ltI (by omega) (by omega)]
    omega
  · have hneg : nI L - 4 < 0 := by
      have : L = 0 ∨ L = 1 ∨ L = 2 ∨ L = 3 := by omega
      rcases this with e | e | e | e <;> subst e <;> decide
    exact ⟨fun _ => by omega, fun _ => Int32.lt_of_lt_of_le hneg (nI_pos' (by omega))⟩
theorem la_31 (a : Int32) : ∃ j, j < 32 ∧ a &&& 31 = nI j := by
  have ev : a = nI a.toUInt32.toNat := by
    apply nb_ext
    intro i hi
    rw [nb_nI _ hi]
    rfl
  refine ⟨a.toUInt32.toNat &&& 31, Nat.lt_succ_of_le Nat.and_le_right, ?_⟩
  rw [← nb_and, ← ev]
  rfl
theorem la_out {j : Nat} (h : 19 ≤ j) (hj : j < 32) : (18 : Int) < (nI j).toInt := by
  have e : ∀ j, j < 32 → 19 ≤ j → (18 : Int) < (nI j).toInt := by decide +kernel
  exact e j hj h
section LL
variable {x : zv_X} {K : zK} {b L : Nat} {xs : Nat → Int32}
set_option maxHeartbeats 8000000 in
set_option maxRecDepth 100000 in
/-- the nineteen calls, and none -/
theorem la_case (C : zv_C x (gL K)) (X : zv_Sc x b L xs) {t : Nat} (h4 : 4 * t + 4 ≤ L) (hL : L ≤ 2048) {σ : dS} {B : Nat → Nat} {Lf : Nat → Bool} {μ : dQ} (G : GdS t Lf σ) (hk : laK x K b σ B t) {j : Nat} (hj : j < 32) : zv_V x (gL K) 32 (laV b (σ.1 0) (B 0) t) [.int (nI j)] (wS K σ ++ wT K B σ.2.1.2.2.1 Lf μ) (lce σ) (lsl σ) := by
  have hk0 := hk σ σ.2.1.2.2.1 Lf μ
  obtain ⟨A, O, Ld, q, W, P, R, Cc, M⟩ := σ
  obtain ⟨cc, Of, g, f, mu, gb, ln, bs⟩ := μ
  have ht : t < 2 ^ 30 := by omega
  match j, hj with
  | 0, _ => exact zv_tabIn C dzL_32 (v := nI 0) (off := 92) (tgt := 124) rfl (by decide) (by decide) (by decide) (by decide) (la_0 C X h4 hL (fun a1 => op_begin K A O Ld q W P R Cc M B Lf cc Of g f mu gb ln bs G ht a1) hk)
  | 1, _ => exact zv_tabIn C dzL_32 (v := nI 1) (off := 115) (tgt := 147) rfl (by decide) (by decide) (by decide) (by decide) (la_1 C X h4 hL (fun a1 a2 => op_put K A O Ld q W P R Cc M B Lf cc Of g f mu gb ln bs G ht a1 a2) hk)
  | 2, _ => exact zv_tabIn C dzL_32 (v := nI 2) (off := 148) (tgt := 180) rfl (by decide) (by decide) (by decide) (by decide) (la_2 C X h4 hL (fun a1 => op_free K A O Ld q W P R Cc M B Lf cc Of g f mu gb ln bs G ht a1) hk)
  | 3, _ => exact zv_tabIn C dzL_32 (v := nI 3) (off := 171) (tgt := 203) rfl (by decide) (by decide) (by decide) (by decide) (la_3 C X h4 hL (fun a1 a2 => op_isBelow K A O Ld q W P R Cc M B Lf cc Of g f mu gb ln bs G a1 a2) hk)
  | 4, _ => exact zv_tabIn C dzL_32 (v := nI 4) (off := 204) (tgt := 236) rfl (by decide) (by decide) (by decide) (by decide) (la_4 C X h4 hL (fun a1 => op_covers K A O Ld q W P R Cc M B Lf cc Of g f mu gb ln bs G a1) hk)
  | 5, _ => exact zv_tabIn C dzL_32 (v := nI 5) (off := 227) (tgt := 259) rfl (by decide) (by decide) (by decide) (by decide) (la_5 C X h4 hL (fun a1 => op_count K A O Ld q W P R Cc M B Lf cc Of g f mu gb ln bs G a1) hk)
  | 6, _ => exact zv_tabIn C dzL_32 (v := nI 6) (off := 250) (tgt := 282) rfl (by decide) (by decide) (by decide) (by decide) (la_6 C X h4 hL (fun a1 => op_chain K A O Ld q W P R Cc M B Lf cc Of g f mu gb ln bs G a1) hk)
  | 7, _ => exact zv_tabIn C dzL_32 (v := nI 7) (off := 273) (tgt := 305) rfl (by decide) (by decide) (by decide) (by decide) (la_7 C X h4 hL (op_apart K A O Ld q W P R Cc M B Lf cc Of g f mu gb ln bs G) hk)
  | 8, _ => exact zv_tabIn C dzL_32 (v := nI 8) (off := 286) (tgt := 318) rfl (by decide) (by decide) (by decide) (by decide) (la_8 C X h4 hL (fun a1 => op_next K A O Ld q W P R Cc M B Lf cc Of g f mu gb ln bs G a1) hk)
  | 9, _ => exact zv_tabIn C dzL_32 (v := nI 9) (off := 309) (tgt := 341) rfl (by decide) (by decide) (by decide) (by decide) (la_9 C X h4 hL (op_rows K A O Ld q W P R Cc M B Lf cc Of g f mu gb ln bs G) hk)
  | 10, _ => exact zv_tabIn C dzL_32 (v := nI 10) (off := 323) (tgt := 355) rfl (by decide) (by decide) (by decide) (by decide) (la_10 C X h4 hL (fun a1 a2 => op_before K A O Ld q W P R Cc M B Lf cc Of g f mu gb ln bs G a1 a2) hk)
  | 11, _ => exact zv_tabIn C dzL_32 (v := nI 11) (off := 357) (tgt := 389) rfl (by decide) (by decide) (by decide) (by decide) (la_11 C X h4 hL (fun a1 a2 => op_places K A O Ld q W P R Cc M B Lf cc Of g f mu gb ln bs G a1 a2) hk)
  | 12, _ => exact zv_tabIn C dzL_32 (v := nI 12) (off := 391) (tgt := 423) rfl (by decide) (by decide) (by decide) (by decide) (la_12 C X h4 hL (fun a1 => op_row K A O Ld q W P R Cc M B Lf cc Of g f mu gb ln bs G a1) hk)
  | 13, _ => exact zv_tabIn C dzL_32 (v := nI 13) (off := 445) (tgt := 477) rfl (by decide) (by decide) (by decide) (by decide) (la_13 C X h4 hL (fun a1 => op_rank K A O Ld q W P R Cc M B Lf cc Of g f mu gb ln bs G a1) hk)
  | 14, _ => exact zv_tabIn C dzL_32 (v := nI 14) (off := 499) (tgt := 531) rfl (by decide) (by decide) (by decide) (by decide) (la_14 C X h4 hL (fun a1 => op_cut K A O Ld q W P R Cc M B Lf cc Of g f mu gb ln bs G a1) hk)
  | 15, _ => exact zv_tabIn C dzL_32 (v := nI 15) (off := 522) (tgt := 554) rfl (by decide) (by decide) (by decide) (by decide) (la_15 C X h4 hL (fun a1 => op_least K A O Ld q W P R Cc M B Lf cc Of g f mu gb ln bs G a1) hk)
  | 16, _ => exact zv_tabIn C dzL_32 (v := nI 16) (off := 545) (tgt := 577) rfl (by decide) (by decide) (by decide) (by decide) (la_16 C X h4 hL (fun a1 a2 a3 => op_joined K A O Ld q W P R Cc M B Lf cc Of g f mu gb ln bs G a1 a2 a3) hk)
  | 17, _ => exact zv_tabIn C dzL_32 (v := nI 17) (off := 604) (tgt := 636) rfl (by decide) (by decide) (by decide) (by decide) (la_17 C X h4 hL (fun a1 a2 => op_mu K A O Ld q W P R Cc M B Lf cc Of g f mu gb ln bs G a1 a2) hk)
  | 18, _ => exact zv_tabIn C dzL_32 (v := nI 18) (off := 637) (tgt := 669) rfl (by decide) (by decide) (by decide) (by decide) (la_18 C X h4 hL (fun a1 a2 => op_muOfCuts K A O Ld q W P R Cc M B Lf cc Of g f mu gb ln bs G a1 a2) hk)
  | j + 19, hj => exact zv_tabOut C dzL_32 (v := nI (j + 19)) (tgt := 702) rfl (Or.inr (la_out (by omega) hj)) (by decide) (hk0 (Gd.up G) rfl rfl)
set_option maxHeartbeats 8000000 in
set_option maxRecDepth 100000 in
theorem la_loop (C : zv_C x (gL K)) (X : zv_Sc x b L xs) (hL : L ≤ 2048) (B : Nat → Nat) (hE : ∀ (lv : zv_L) (ws : va_W) (ce sl : Nat), ce ≤ 600000 → sl ≤ 7302250 → zv_V x (gL K) 709 lv [.int 1] ws ce sl) : ∀ (d t : Nat), t + d ≤ 512 → L < 4 * t + 4 * d + 4 → ∀ (σ : dS) (Lf : Nat → Bool) (μ : dQ), GdS t Lf σ → zv_V x (gL K) 18 (laV b (σ.1 0) (B 0) t) [] (wS K σ ++ wT K B σ.2.1.2.2.1 Lf μ) (lce σ) (lsl σ) := by
  intro d
  induction d with
  | zero =>
    intro t h1 h2 σ Lf μ G
    refine zv_go C okL_h [] 40 ?_
    refine zv_slen C X rfl dzL_20 rfl ?_
    refine zv_go C okL_h [] 5 ?_
    refine ⟨fun _ => ?_, fun h => absurd ((la_more hL (by omega)).mpr (by omega)) h⟩
    refine zv_go C okL_e [] 5 ?_
    exact hE _ _ _ _ (rmS G).1 (rmS G).2
  | succ d ih =>
    intro t h1 h2 σ Lf μ G
    refine zv_go C okL_h [] 40 ?_
    refine zv_slen C X rfl dzL_20 rfl ?_
    refine zv_go C okL_h [] 6 ?_
    refine ⟨fun _ => ?_, fun h => ?_⟩
    · refine zv_go C okL_e [] 5 ?_
      exact hE _ _ _ _ (rmS G).1 (rmS G).2
    have h4 : 4 * t + 4 ≤ L := Nat.not_lt.mp fun z => h ((la_more hL (by omega)).mpr z)
    refine zv_go C okL_h [] 5 ?_
    refine zv_sld C X rfl (vp_in_nI (by omega) (by omega)) dzL_28 rfl ?_
    refine zv_go C okL_h [] 5 ?_
    obtain ⟨j, hj, e⟩ := la_31 (xs (nI (4 * t)).toNatClampNeg)
    refine zv_to C rfl (st' := [.int (nI j)]) (by rw [← e]) rfl ?_
    refine la_case C X h4 hL G (fun σ' k' Lf' μ' g1 g2 g3 => ?_) hj
    subst g2
    refine zv_go C okL_e [18] 5 ?_
    refine zv_to C (lv' := laV b (σ'.1 0) (B 0) (t + 1)) ?_ rfl rfl (ih (t + 1) (by omega) (by omega) σ' Lf' μ' g1)
    show [(0, Value.ref b), (1, Value.ref (σ.1 0)), (2, Value.ref (B 0)), (3, Value.int (nI (4 * t) + nI 4))] = _
    rw [nI_add, g3]
    rfl
end LL
