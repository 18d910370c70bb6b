/-! THE JDK's min, fill, arraycopy, copyOf -/
set_option maxHeartbeats 4000000 in
set_option maxRecDepth 100000 in
theorem c_fill (K : zK) (r N : Nat) (f : Nat → Int64) (v : Int64) (hN : N < 2 ^ 31) : zD K yJ7_fill_d0a16 cJ7_fill_d0a16 5 none (zq 0 0 0 0) [.ref r, .long v] [(r, .inl (cJ K, N, .inr (.inl f)))] none [(r, .inl (cJ K, N, .inr (.inl (fun _ => v))))] := by
  refine zo (by decide) (Nat.le_of_ble_eq_true rfl) fun x C R _ => ?_
  have loop : ∀ mm k (g : Nat → Int64), k + mm = N → (∀ j, j < k → g j = v) → zv_V x (gz K (zq 0 0 0 0) 5 cJ7_fill_d0a16 yJ7_fill_d0a16.cls) 6 [(0, .ref r), (1, .long v), (3, .int (nI k)), (4, .int (nI N))] [] [(r, .inl (cJ K, N, .inr (.inl g)))] 0 0 := by
    intro mm
    induction mm with
    | zero =>
      intro k g hk hg
      have e : k = N := by omega
      subst e
      refine zv_exL C 0 (fun _ => v) rfl hg ?_
      refine zv_go C okJ7_fill_d0a16 [] 20 ?_
      refine ⟨fun _ => ?_, fun h => absurd (nI_le (Nat.le_refl _) hN) h⟩
      exact zr R () [0] none _ rfl rfl trivial rfl rfl (Nat.le_refl _) (Nat.le_refl _) dzJ7_fill_d0a16_22
    | succ mm ih =>
      intro k g hk hg
      refine zv_go C okJ7_fill_d0a16 [6] 20 ?_
      refine ⟨fun h => absurd h (nI_ge (by omega) hN), fun _ => ⟨⟨rfl, rfl⟩, vp_in_nI (by omega) hN, ?_⟩⟩
      refine zv_to C (lv' := [(0, .ref r), (1, .long v), (3, .int (nI (k + 1))), (4, .int (nI N))]) (by rw [← nI_1] <;> rfl) rfl rfl (ih (k + 1) _ (by omega) ?_)
      intro j hj
      rw [nI_clamp (by omega)]
      by_cases e : j = k
      · rw [e, pk_uLs]
      · rw [pk_uLn e]; exact hg j (by omega)
  refine zv_go C okJ7_fill_d0a16 [6] 20 ?_
  refine ⟨⟨rfl, rfl⟩, ?_⟩
  exact loop N 0 f (by omega) (fun j hj => absurd hj (Nat.not_lt_zero _))
section ZY
variable {x : zv_X} {l : Launch} {R : Room} {D : va_G} {cl : List vw_C} {tys : List (ClassId × FieldType)} {nL : Nat} {cc : ByteArray} {own : String} {Ts : List Jvm.Cond}
variable {pc nx : Nat} {lv : zv_L} {st rest : List Value} {ws : va_W} {ce sl : Nat}
theorem zv_copyi (C : zv_C x (l, R, D, cl, tys, nL, cc, own, Ts)) {index : Nat} (hk : (decide (Jvm.Cond.methodLink own index arraycopyName ∈ Ts) && (decide (Jvm.Cond.native arraycopyName ∈ Ts) && (decide (Jvm.Cond.static arraycopyName ∈ Ts) && decide (Jvm.Cond.initialized "java/lang/System" ∈ Ts)))) = true) (q0 q1 t0 : Nat) {a0 a1 : Nat} {cA : ClassId} {n0 n1 : Nat} {f g : Nat → Int32} (ha0 : ws[q0]? = some (a0, .inl (cA, n0, .inl f))) (ha1 : ws[q1]? = some (a1, .inl (cA, n1, .inl g))) (ht0 : tys[t0]? = some (cA, .int))
    {sp dp n : Int32} (hst : st = .int n :: .int dp :: .ref a1 :: .int sp :: .ref a0 :: rest) (h1 : ¬ sp < 0) (h2 : ¬ dp < 0) (h3 : ¬ n < 0) (h4 : sp.toNatClampNeg + n.toNatClampNeg ≤ n0) (h5 : dp.toNatClampNeg + n.toNatClampNeg ≤ n1) (hfr : 1 ≤ R.frames) (hloc : (rest.map fun v => v.category).sum + (nativeFrameWords "java/lang/System" "arraycopy" 5 + 11) ≤ R.locals) (hdg : decode cc pc = .ok (.invokestatic index, 3)) (hnx : pc + 3 = nx)
    (k : zv_V x (l, R, D, cl, tys, nL, cc, own, Ts) nx lv rest (ws.set q1 (a1, .inl (cA, n1, .inl (va_cpy f g sp.toNatClampNeg dp.toNatClampNeg n.toNatClampNeg)))) ce sl) : zv_V x (l, R, D, cl, tys, nL, cc, own, Ts) pc lv st ws ce sl := by
  subst hnx
  subst hst
  obtain ⟨p, e, s, m, args, below, meth, c, A, Q⟩ := x
  obtain ⟨hx, hb, hml, hown, hts, hK, hA, hE, hct⟩ := C
  simp only [Bool.and_eq_true, decide_eq_true_eq] at hk
  obtain ⟨k1, k2, k3, k4⟩ := hk
  intro H locs ls hP hD hS hl
  exact va_copyi hx hb (hml.trans hl.1.symm) hown (hts _ k1) (hts _ k2) (hts _ k3) (hts _ k4) hK hP hD hS q0 q1 t0 t0 ha0 ha1 ht0 ht0 rfl h1 h2 h3 h4 h5 (fun _ _ => rfl) hfr hloc hdg (fun H locs hP hD hS => k H locs ls hP hD hS hl)
theorem zv_mmin (C : zv_C x (l, R, D, cl, tys, nL, cc, own, Ts)) {index : Nat} (hk : (decide (Jvm.Cond.methodLink own index Lib.Math.min.name ∈ Ts) && (decide (Jvm.Cond.static Lib.Math.min.name ∈ Ts) && decide (Jvm.Cond.initialized "java/lang/Math" ∈ Ts))) = true) (hcode : Jvm.Cond.code Lib.Math.min.name Lib.Math.min.code 2 (some .int) ∈ Ts) {u v : Int32} (hst : st = .int v :: .int u :: rest) (hfr : 1 ≤ R.frames) (hloc : (rest.map fun v => v.category).sum + 13 ≤ R.locals) (hc : ce ≤ R.cells) (hs : sl ≤ R.slots) (hdg : decode cc pc = .ok (.invokestatic index, 3)) (hnx : pc + 3 = nx)
    (k : zv_V x (l, R, D, cl, tys, nL, cc, own, Ts) nx lv (.int (if v < u then v else u) :: rest) ws ce sl) : zv_V x (l, R, D, cl, tys, nL, cc, own, Ts) pc lv st ws ce sl := by
  subst hnx
  subst hst
  obtain ⟨p, e, s, m, args, below, meth, c, A, Q⟩ := x
  obtain ⟨hx, hb, hml, hown, hts, hK, hA, hE, hct⟩ := C
  simp only [Bool.and_eq_true, decide_eq_true_eq] at hk
  obtain ⟨k1, k2, k3⟩ := hk
  intro H locs ls hP hD hS hl
  exact va_mmin hx hb (hml.trans hl.1.symm) hown (hts _ k1) (hts _ k2) (hts _ k3) (hts _ hcode) hfr hloc hc hs hdg (k H locs ls hP hD hS hl)
end ZY
theorem zk_min : (decide (Jvm.Cond.methodLink RJ7 304 Lib.Math.min.name ∈ zt) && (decide (Jvm.Cond.static Lib.Math.min.name ∈ zt) && decide (Jvm.Cond.initialized "java/lang/Math" ∈ zt))) = true := by decide +kernel
theorem zk_copy : (decide (Jvm.Cond.methodLink RJ7 150 arraycopyName ∈ zt) && (decide (Jvm.Cond.native arraycopyName ∈ zt) && (decide (Jvm.Cond.static arraycopyName ∈ zt) && decide (Jvm.Cond.initialized "java/lang/System" ∈ zt)))) = true := by decide +kernel
theorem zk_arrI : Jvm.Cond.arrayClass .int ∈ zt := by decide +kernel
theorem zk_arrJ : Jvm.Cond.arrayClass .long ∈ zt := by decide +kernel
theorem zk_arrB : Jvm.Cond.arrayClass .byte ∈ zt := by decide +kernel
theorem zk_arrZ : Jvm.Cond.arrayClass .boolean ∈ zt := by decide +kernel
set_option maxHeartbeats 4000000 in
set_option maxRecDepth 100000 in
theorem c_copyOf (K : zK) (r n0 n1 : Nat) (f : Nat → Int32) (h01 : n0 < n1) (h1 : n1 ≤ 65536) :
    zM (S := Nat) K yJ7_copyOf_59c91 cJ7_copyOf_59c91 3 (some (.array .int)) (zq 1 1 n1 60) [.ref r, .int (nI n1)] [(r, .inl (cI K, n0, .inl f))] (fun _ => True) (fun u => some (.ref u)) (fun u => [(r, .inl (cI K, n0, .inl f)), (u, .inl (cI K, n1, .inl (fun j => if j < n0 then f j else 0)))]) := by
  refine zo (by decide) (Nat.le_of_ble_eq_true rfl) fun x C R _ => ?_
  refine zv_go C okJ7_copyOf_59c91 [] 20 ?_
  refine ⟨⟨rfl, rfl⟩, fun h => ?_, fun h => absurd h (fun e => by
    have e : nI n1 = nI n0 := e
    rw [nb_inj (by omega) (by omega)] at e
    omega)⟩
  refine zv_newa C (atype := .int) 0 0 (N' := n1) (a0 := (n1, .inl (fun _ => 0))) rfl zk_arrI rfl (fun _ => rfl) rfl (nI_pos (by omega)) (nI_clamp (by omega)) (by show n1 * 4 ≤ _; omega) dzJ7_copyOf_59c91_15 (Nat.le_refl 1) (by show 0 + n1 ≤ n1; omega) rfl (fun q => ?_)
  refine zv_to C rfl rfl (ws' := [(r, .inl (cI K, n0, .inl f)), (q, .inl (cI K, n1, .inl (fun _ => 0)))]) rfl ?_
  refine zv_go C okJ7_copyOf_59c91 [] 20 ?_
  refine ⟨⟨rfl, rfl⟩, ?_⟩
  refine zv_mmin C zk_min inJ9_min_7cf53 (u := nI n0) (v := nI n1) (rest := [.int 0, .ref q, .int 0, .ref r]) rfl (Nat.le_refl 1) (Nat.le_of_ble_eq_true rfl) (by show 0 + 1 ≤ 1; omega) (by show 0 + n1 ≤ n1; omega) dzJ7_copyOf_59c91_25 rfl ?_
  have em : (if nI n1 < nI n0 then nI n1 else nI n0) = nI n0 := if_neg (nI_nlt (by omega) (by omega))
  refine zv_to C rfl (st' := [.int (nI n0), .int 0, .ref q, .int 0, .ref r]) (by rw [em] <;> rfl) (ws' := [(r, .inl (cI K, n0, .inl f)), (q, .inl (cI K, n1, .inl (fun _ => 0)))]) rfl ?_
  have ec : (nI n0).toNatClampNeg = n0 := nI_clamp (by omega)
  refine zv_copyi C zk_copy 0 1 0 rfl rfl rfl rfl (by decide) (by decide) (nI_pos (by omega)) (by rw [ec]; exact Nat.le_of_eq (Nat.zero_add n0)) (by rw [ec]; show 0 + n0 ≤ n1; omega) (Nat.le_refl 1) (Nat.le_of_ble_eq_true rfl) dzJ7_copyOf_59c91_28 rfl ?_
  refine zv_exI C 1 (fun j => if j < n0 then f j else 0) rfl ?_ ?_
  · intro j hj
    rw [ec]
    show va_cpy f (fun _ => 0) 0 0 n0 j = _
    by_cases h5 : j < n0
    · rw [pk_cpy_in (by omega) (by omega), if_pos h5]
      congr 1
      omega
    · rw [pk_cpy_out (by omega), if_neg h5]
  refine zv_go C okJ7_copyOf_59c91 [] 20 ?_
  exact zr R q [0, 1] (some (.ref q)) _ rfl rfl trivial rfl rfl (by show 0 + 1 ≤ 1; omega) (by show 0 + n1 ≤ n1; omega) dzJ7_copyOf_59c91_32
