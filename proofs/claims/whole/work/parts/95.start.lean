/-! THE START of the law -/
theorem la_inst : ∀ q ∈ vwCl, Jvm.Cond.instantiable q.1 q.2.2 ∈ zt := by decide +kernel
theorem la_nl : ∀ q ∈ zv_nl, Jvm.Cond.methodLinkNest q.1 q.2.1 q.2.2.1 q.2.2.2 ∈ lw_tbl := by decide +kernel
theorem la_fs8 : (List.range 7).map (fun j => defaultValue (zv_ty TX8 j)) = [.null, .null, .null, .null, .null, .null, .null] := by decide +kernel
theorem la_fs9 : (List.range 10).map (fun j => defaultValue (zv_ty TX9 j)) = [.int 0, .null, .null, .null, .null, .int 0, .null, .null, .null, .null] := by decide +kernel
theorem la_arr {s : State} {args : Array Value} {ty : FieldType} (h : (Jvm.Cond.arrayClass ty).before args s = true) : ∃ cA, ArrOfT s cA ty ∧ s.vm.findClass ("[" ++ ty.toString) = some cA := by
  obtain ⟨c, k, comp, h1, h2, h3⟩ := Cond.arrayClass_spec h
  exact ⟨c, fun n z => ⟨fun k h => (by cases h), k, h2, comp, h3⟩, h1⟩
/-- the tables' words give the classes' numbers and the arrays' classes -/
theorem la_K {s : State} {args : Array Value} (ht : ∀ w ∈ zt, w.before args s = true) (l : Launch) : ∃ K : zK, K.1 = l ∧ va_K K.2.1 vwCl (tz K) s := by
  obtain ⟨aI, i1, i2⟩ := la_arr (ht _ zk_arrI)
  obtain ⟨aJ, j1, j2⟩ := la_arr (ht _ zk_arrJ)
  obtain ⟨aB, b1, b2⟩ := la_arr (ht _ zk_arrB)
  obtain ⟨aZ, z1, z2⟩ := la_arr (ht _ zk_arrZ)
  have hk : ∀ ci : Nat, ∃ p : ClassId × (Nat → Nat), ∀ q : vw_C, vwCl[ci]? = some q → u_Kn s q.1 q.2.1 q.2.2 p.1 p.2 := by
    intro ci
    cases hc : vwCl[ci]? with
    | none => exact ⟨(aI, fun _ => 0), fun q h => by cases h⟩
    | some r =>
      obtain ⟨C, T, N⟩ := r
      obtain ⟨cC, iS, h⟩ := u_known (ws := zt) (n := N) ht (zv_cl_e zt_cl hc).1 (ht _ (la_inst _ (List.mem_of_getElem? hc)))
      exact ⟨(cC, iS), fun q e => by cases e; exact h⟩
  obtain ⟨F, hF⟩ := Classical.axiomOfChoice hk
  refine ⟨(l, (fun c => (F c).1, fun c => (F c).2), aI, aJ, aB, aZ), rfl, fun c q hq => hF c q hq, fun k q hq => ?_⟩
  match k, hq with
  | 0, hq => cases hq; exact ⟨i1, i2⟩
  | 1, hq => cases hq; exact ⟨j1, j2⟩
  | 2, hq => cases hq; exact ⟨b1, b2⟩
  | 3, hq => cases hq; exact ⟨z1, z2⟩
  | k + 4, hq => cases hq
theorem la_E {s : State} {args : Array Value} (hts : ∀ w ∈ lw_tbl, w.before args s = true) : zv_E s := fun q hq => va_Nw.of rfl (hts _ (la_nl q hq))
theorem la_G0 (u : Nat → Nat) : GdS 0 (fun _ => false) (u, (fun _ => 0, fun _ => 0, 1, 0), (fun _ => 0, fun _ => 0, 0, -1), (fun _ => 0, 0, 0), (0, -1), (fun _ => 0, -1), (fun _ => 0, fun _ => 0, 16, 0, -1, -1), (fun _ => 0, 16, 0, -1), (fun _ => 0, fun _ => 0, 16, 0)) := by
  have hne : ¬ (-1 : Int32) = 0 := by decide
  exact ⟨Tied_begin 1, ⟨Nat.le_of_ble_eq_true rfl, Nat.le_of_ble_eq_true rfl⟩, ⟨0, Nat.le_refl _, rfl, Or.inl rfl, Or.inl rfl, Or.inl rfl, Or.inl rfl, Or.inl rfl, Or.inl rfl⟩, fun h => absurd h hne, fun h => absurd h hne, fun h => absurd h hne, ⟨⟨4, rfl, Nat.le_of_ble_eq_true rfl, Nat.le_of_ble_eq_true rfl⟩, fun h => absurd h hne, fun h => absurd h hne⟩, ⟨Nat.le_of_ble_eq_true rfl, Nat.le_of_ble_eq_true rfl, fun h => absurd h hne⟩, ⟨Nat.le_of_ble_eq_true rfl, Nat.le_of_ble_eq_true rfl⟩⟩
set_option maxHeartbeats 8000000 in
set_option maxRecDepth 100000 in
theorem la_start {x : zv_X} {K : zK} {b L : Nat} {xs : Nat → Int32} (C : zv_C x (gL K)) (X : zv_Sc x b L xs) (hL : L ≤ 2048) (hE : ∀ (lv : zv_L) (ws : va_W) (ce sl : Nat), ce ≤ 600000 → sl ≤ 7302250 → zv_V x (gL K) 709 lv [.int 1] ws ce sl) : zv_V x (gL K) 0 [(0, .ref b)] [] [] 0 0 := by
  refine zv_new C (ci := 8) (Cn := RX8) (T := TX8) (N := 7) (fs := [.null, .null, .null, .null, .null, .null, .null]) rfl (by decide +kernel) la_fs8 dzL_0 (by decide) (by decide) rfl (fun z => ?_)
  refine zv_to C rfl rfl (ws' := [(z, .inr (8, [.null, .null, .null, .null, .null, .null, .null]))]) rfl ?_
  refine zv_go C okL_h [] 1 ?_
  refine zv_callI C (d_init K z) (zw_I inX8_init kL_9 ⟨by decide, by decide⟩) [0] rfl rfl (fun _ => Nat.le_of_ble_eq_true rfl) (rest := [.ref z]) rfl rfl (Nat.le_of_ble_eq_true rfl) dzL_4 (by decide) (by decide) rfl (fun u hu => ?_)
  refine zv_to C rfl rfl (ws' := wD0 K u) rfl ?_
  refine zv_go C okL_h [] 1 ?_
  refine zv_new C (ci := 9) (Cn := RX9) (T := TX9) (N := 10) (fs := [.int 0, .null, .null, .null, .null, .int 0, .null, .null, .null, .null]) rfl (by decide +kernel) la_fs9 dzL_8 (by decide) (by decide) rfl (fun z2 => ?_)
  refine zv_to C rfl rfl (ws' := wD0 K u ++ [(z2, .inr (9, [.int 0, .null, .null, .null, .null, .int 0, .null, .null, .null, .null]))]) rfl ?_
  refine zv_go C okL_h [] 1 ?_
  refine zv_callI C (m_init K z2) (zw_I inX9_init kL_12 ⟨by decide, by decide⟩) [20] rfl rfl (fun _ => Nat.le_of_ble_eq_true rfl) (rest := [.ref z2]) rfl rfl (Nat.le_of_ble_eq_true rfl) dzL_12 (by decide) (by decide) rfl (fun v hv => ?_)
  refine zv_to C rfl rfl (ws' := wD0 K u ++ wQ0 K v) rfl ?_
  refine zv_go C okL_h [18] 5 ?_
  refine zv_to C (lv' := laV b (u 0) (v 0) 0) ?_ rfl rfl ?_
  · rw [hu, hv]; rfl
  refine zv_wide C (ce' := 64) (sl' := 300160) (by decide) (by decide) ?_
  exact la_loop C X hL v hE 512 0 (by decide) (by omega) _ _ (0, fun _ => false, fun _ => 0, fun _ => 0, fun _ => 0, fun _ => 0, fun _ => 0, fun _ => 0) (la_G0 u)
