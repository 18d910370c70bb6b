/-! THE MODEL: its constructor, its world -/
/-- the model's world: n, the kept count, the table, the other table, orders, cuts, mus, gets, line, best -/
abbrev wQ (K : zK) (A : Nat → Nat) (n : Nat) (cc : Int32) (Lf Of : Nat → Bool) (g : Nat → Int64) (f μ b l bb : Nat → Int32) : va_W := [mO A n cc, mZ K (A 1) Lf, mZ K (A 2) Of, mJ K (A 3) g, mI K (A 4) 16384 f, mI K (A 5) 16384 μ, mB K (A 6) b, mI K (A 7) 14 l, mI K (A 8) 14 bb]
theorem bI_fz : (fun _ : Nat => (0 : Int32)) = fun k : Nat => bI ((fun _ => false) k) := rfl
abbrev wQ0 (K : zK) (A : Nat → Nat) : va_W := wQ K A 1 0 (fun _ => false) (fun _ => false) (fun _ => 0) (fun _ => 0) (fun _ => 0) (fun _ => 0) (fun _ => 0) (fun _ => 0)
set_option maxHeartbeats 8000000 in
set_option maxRecDepth 100000 in
theorem m_init (K : zK) (z : Nat) : zM (S := Nat → Nat) K yX9_init cX9_init 1 none (zq 1 8 295452 16) [.ref z] [(z, .inr (9, [.int 0, .null, .null, .null, .null, .int 0, .null, .null, .null, .null]))] (fun u => u 0 = z) (fun _ => none) (fun u => wQ0 K u) := by
  refine zo (by decide) (Nat.le_of_ble_eq_true rfl) fun x C R hin => ?_
  refine zv_go C okX9_init [] 1 ?_
  refine zv_objInit C (by decide +kernel) zk_oi1 zk_oi2 rfl dzX9_init_1 (by decide) (by decide) rfl ?_
  refine zv_go C okX9_init [] 3 ?_
  refine ⟨rfl, ?_⟩
  refine zv_to C rfl rfl (ws' := [(z, .inr (9, [.int 1, .null, .null, .null, .null, .int 0, .null, .null, .null, .null]))]) rfl ?_
  refine zv_go C okX9_init [] 2 ?_
  refine zv_newa C (atype := .boolean) 3 3 (N' := 256) (a0 := (256, .inl (fun _ => 0))) rfl zk_arrZ rfl (fun _ => rfl) rfl (by decide) (by decide) (by decide) dzX9_init_13 (by decide) (by decide) rfl (fun u0 => ?_)
  refine zv_to C rfl rfl (ws' := [(z, .inr (9, [.int 1, .null, .null, .null, .null, .int 0, .null, .null, .null, .null])), (u0, .inl (cZ K, 256, .inl (fun _ => 0)))]) rfl ?_
  refine zv_putF C hin 0 9 1 2 (T := TX9) rfl (by decide +kernel) rfl rfl rfl rfl (Nat.le_of_ble_eq_true rfl) dzX9_init_15 rfl ?_
  refine zv_to C rfl rfl (ws' := [(z, .inr (9, [.int 1, .ref u0, .null, .null, .null, .int 0, .null, .null, .null, .null])), (u0, .inl (cZ K, 256, .inl (fun _ => 0)))]) rfl ?_
  refine zv_go C okX9_init [] 2 ?_
  refine zv_newa C (atype := .boolean) 3 3 (N' := 256) (a0 := (256, .inl (fun _ => 0))) rfl zk_arrZ rfl (fun _ => rfl) rfl (by decide) (by decide) (by decide) dzX9_init_22 (by decide) (by decide) rfl (fun u1 => ?_)
  refine zv_to C rfl rfl (ws' := [(z, .inr (9, [.int 1, .ref u0, .null, .null, .null, .int 0, .null, .null, .null, .null])), (u0, .inl (cZ K, 256, .inl (fun _ => 0))), (u1, .inl (cZ K, 256, .inl (fun _ => 0)))]) rfl ?_
  refine zv_putF C hin 0 9 2 2 (T := TX9) rfl (by decide +kernel) rfl rfl rfl rfl (Nat.le_of_ble_eq_true rfl) dzX9_init_24 rfl ?_
  refine zv_to C rfl rfl (ws' := [(z, .inr (9, [.int 1, .ref u0, .ref u1, .null, .null, .int 0, .null, .null, .null, .null])), (u0, .inl (cZ K, 256, .inl (fun _ => 0))), (u1, .inl (cZ K, 256, .inl (fun _ => 0)))]) rfl ?_
  refine zv_go C okX9_init [] 2 ?_
  refine zv_newa C (atype := .long) 1 1 (N' := 16384) (a0 := (16384, .inr (.inl (fun _ => 0)))) rfl zk_arrJ rfl (fun _ => rfl) rfl (by decide) (by decide) (by decide) dzX9_init_31 (by decide) (by decide) rfl (fun u2 => ?_)
  refine zv_to C rfl rfl (ws' := [(z, .inr (9, [.int 1, .ref u0, .ref u1, .null, .null, .int 0, .null, .null, .null, .null])), (u0, .inl (cZ K, 256, .inl (fun _ => 0))), (u1, .inl (cZ K, 256, .inl (fun _ => 0))), (u2, .inl (cJ K, 16384, .inr (.inl (fun _ => 0))))]) rfl ?_
  refine zv_putF C hin 0 9 3 2 (T := TX9) rfl (by decide +kernel) rfl rfl rfl rfl (Nat.le_of_ble_eq_true rfl) dzX9_init_33 rfl ?_
  refine zv_to C rfl rfl (ws' := [(z, .inr (9, [.int 1, .ref u0, .ref u1, .ref u2, .null, .int 0, .null, .null, .null, .null])), (u0, .inl (cZ K, 256, .inl (fun _ => 0))), (u1, .inl (cZ K, 256, .inl (fun _ => 0))), (u2, .inl (cJ K, 16384, .inr (.inl (fun _ => 0))))]) rfl ?_
  refine zv_go C okX9_init [] 2 ?_
  refine zv_newa C (atype := .int) 0 0 (N' := 16384) (a0 := (16384, .inl (fun _ => 0))) rfl zk_arrI rfl (fun _ => rfl) rfl (by decide) (by decide) (by decide) dzX9_init_40 (by decide) (by decide) rfl (fun u3 => ?_)
  refine zv_to C rfl rfl (ws' := [(z, .inr (9, [.int 1, .ref u0, .ref u1, .ref u2, .null, .int 0, .null, .null, .null, .null])), (u0, .inl (cZ K, 256, .inl (fun _ => 0))), (u1, .inl (cZ K, 256, .inl (fun _ => 0))), (u2, .inl (cJ K, 16384, .inr (.inl (fun _ => 0)))), (u3, .inl (cI K, 16384, .inl (fun _ => 0)))]) rfl ?_
  refine zv_putF C hin 0 9 4 2 (T := TX9) rfl (by decide +kernel) rfl rfl rfl rfl (Nat.le_of_ble_eq_true rfl) dzX9_init_42 rfl ?_
  refine zv_to C rfl rfl (ws' := [(z, .inr (9, [.int 1, .ref u0, .ref u1, .ref u2, .ref u3, .int 0, .null, .null, .null, .null])), (u0, .inl (cZ K, 256, .inl (fun _ => 0))), (u1, .inl (cZ K, 256, .inl (fun _ => 0))), (u2, .inl (cJ K, 16384, .inr (.inl (fun _ => 0)))), (u3, .inl (cI K, 16384, .inl (fun _ => 0)))]) rfl ?_
  refine zv_go C okX9_init [] 2 ?_
  refine zv_newa C (atype := .int) 0 0 (N' := 16384) (a0 := (16384, .inl (fun _ => 0))) rfl zk_arrI rfl (fun _ => rfl) rfl (by decide) (by decide) (by decide) dzX9_init_49 (by decide) (by decide) rfl (fun u4 => ?_)
  refine zv_to C rfl rfl (ws' := [(z, .inr (9, [.int 1, .ref u0, .ref u1, .ref u2, .ref u3, .int 0, .null, .null, .null, .null])), (u0, .inl (cZ K, 256, .inl (fun _ => 0))), (u1, .inl (cZ K, 256, .inl (fun _ => 0))), (u2, .inl (cJ K, 16384, .inr (.inl (fun _ => 0)))), (u3, .inl (cI K, 16384, .inl (fun _ => 0))), (u4, .inl (cI K, 16384, .inl (fun _ => 0)))]) rfl ?_
  refine zv_putF C hin 0 9 6 2 (T := TX9) rfl (by decide +kernel) rfl rfl rfl rfl (Nat.le_of_ble_eq_true rfl) dzX9_init_51 rfl ?_
  refine zv_to C rfl rfl (ws' := [(z, .inr (9, [.int 1, .ref u0, .ref u1, .ref u2, .ref u3, .int 0, .ref u4, .null, .null, .null])), (u0, .inl (cZ K, 256, .inl (fun _ => 0))), (u1, .inl (cZ K, 256, .inl (fun _ => 0))), (u2, .inl (cJ K, 16384, .inr (.inl (fun _ => 0)))), (u3, .inl (cI K, 16384, .inl (fun _ => 0))), (u4, .inl (cI K, 16384, .inl (fun _ => 0)))]) rfl ?_
  refine zv_go C okX9_init [] 2 ?_
  refine zv_newa C (atype := .byte) 2 2 (N' := 245760) (a0 := (245760, .inl (fun _ => 0))) rfl zk_arrB rfl (fun _ => rfl) rfl (by decide) (by decide) (by decide) dzX9_init_57 (by decide) (by decide) rfl (fun u5 => ?_)
  refine zv_to C rfl rfl (ws' := [(z, .inr (9, [.int 1, .ref u0, .ref u1, .ref u2, .ref u3, .int 0, .ref u4, .null, .null, .null])), (u0, .inl (cZ K, 256, .inl (fun _ => 0))), (u1, .inl (cZ K, 256, .inl (fun _ => 0))), (u2, .inl (cJ K, 16384, .inr (.inl (fun _ => 0)))), (u3, .inl (cI K, 16384, .inl (fun _ => 0))), (u4, .inl (cI K, 16384, .inl (fun _ => 0))), (u5, .inl (cB K, 245760, .inl (fun _ => 0)))]) rfl ?_
  refine zv_putF C hin 0 9 7 2 (T := TX9) rfl (by decide +kernel) rfl rfl rfl rfl (Nat.le_of_ble_eq_true rfl) dzX9_init_59 rfl ?_
  refine zv_to C rfl rfl (ws' := [(z, .inr (9, [.int 1, .ref u0, .ref u1, .ref u2, .ref u3, .int 0, .ref u4, .ref u5, .null, .null])), (u0, .inl (cZ K, 256, .inl (fun _ => 0))), (u1, .inl (cZ K, 256, .inl (fun _ => 0))), (u2, .inl (cJ K, 16384, .inr (.inl (fun _ => 0)))), (u3, .inl (cI K, 16384, .inl (fun _ => 0))), (u4, .inl (cI K, 16384, .inl (fun _ => 0))), (u5, .inl (cB K, 245760, .inl (fun _ => 0)))]) rfl ?_
  refine zv_go C okX9_init [] 2 ?_
  refine zv_newa C (atype := .int) 0 0 (N' := 14) (a0 := (14, .inl (fun _ => 0))) rfl zk_arrI rfl (fun _ => rfl) rfl (by decide) (by decide) (by decide) dzX9_init_65 (by decide) (by decide) rfl (fun u6 => ?_)
  refine zv_to C rfl rfl (ws' := [(z, .inr (9, [.int 1, .ref u0, .ref u1, .ref u2, .ref u3, .int 0, .ref u4, .ref u5, .null, .null])), (u0, .inl (cZ K, 256, .inl (fun _ => 0))), (u1, .inl (cZ K, 256, .inl (fun _ => 0))), (u2, .inl (cJ K, 16384, .inr (.inl (fun _ => 0)))), (u3, .inl (cI K, 16384, .inl (fun _ => 0))), (u4, .inl (cI K, 16384, .inl (fun _ => 0))), (u5, .inl (cB K, 245760, .inl (fun _ => 0))), (u6, .inl (cI K, 14, .inl (fun _ => 0)))]) rfl ?_
  refine zv_putF C hin 0 9 8 2 (T := TX9) rfl (by decide +kernel) rfl rfl rfl rfl (Nat.le_of_ble_eq_true rfl) dzX9_init_67 rfl ?_
  refine zv_to C rfl rfl (ws' := [(z, .inr (9, [.int 1, .ref u0, .ref u1, .ref u2, .ref u3, .int 0, .ref u4, .ref u5, .ref u6, .null])), (u0, .inl (cZ K, 256, .inl (fun _ => 0))), (u1, .inl (cZ K, 256, .inl (fun _ => 0))), (u2, .inl (cJ K, 16384, .inr (.inl (fun _ => 0)))), (u3, .inl (cI K, 16384, .inl (fun _ => 0))), (u4, .inl (cI K, 16384, .inl (fun _ => 0))), (u5, .inl (cB K, 245760, .inl (fun _ => 0))), (u6, .inl (cI K, 14, .inl (fun _ => 0)))]) rfl ?_
  refine zv_go C okX9_init [] 2 ?_
  refine zv_newa C (atype := .int) 0 0 (N' := 14) (a0 := (14, .inl (fun _ => 0))) rfl zk_arrI rfl (fun _ => rfl) rfl (by decide) (by decide) (by decide) dzX9_init_73 (by decide) (by decide) rfl (fun u7 => ?_)
  refine zv_to C rfl rfl (ws' := [(z, .inr (9, [.int 1, .ref u0, .ref u1, .ref u2, .ref u3, .int 0, .ref u4, .ref u5, .ref u6, .null])), (u0, .inl (cZ K, 256, .inl (fun _ => 0))), (u1, .inl (cZ K, 256, .inl (fun _ => 0))), (u2, .inl (cJ K, 16384, .inr (.inl (fun _ => 0)))), (u3, .inl (cI K, 16384, .inl (fun _ => 0))), (u4, .inl (cI K, 16384, .inl (fun _ => 0))), (u5, .inl (cB K, 245760, .inl (fun _ => 0))), (u6, .inl (cI K, 14, .inl (fun _ => 0))), (u7, .inl (cI K, 14, .inl (fun _ => 0)))]) rfl ?_
  refine zv_putF C hin 0 9 9 2 (T := TX9) rfl (by decide +kernel) rfl rfl rfl rfl (Nat.le_of_ble_eq_true rfl) dzX9_init_75 rfl ?_
  refine zv_to C rfl rfl (ws' := [(z, .inr (9, [.int 1, .ref u0, .ref u1, .ref u2, .ref u3, .int 0, .ref u4, .ref u5, .ref u6, .ref u7])), (u0, .inl (cZ K, 256, .inl (fun _ => 0))), (u1, .inl (cZ K, 256, .inl (fun _ => 0))), (u2, .inl (cJ K, 16384, .inr (.inl (fun _ => 0)))), (u3, .inl (cI K, 16384, .inl (fun _ => 0))), (u4, .inl (cI K, 16384, .inl (fun _ => 0))), (u5, .inl (cB K, 245760, .inl (fun _ => 0))), (u6, .inl (cI K, 14, .inl (fun _ => 0))), (u7, .inl (cI K, 14, .inl (fun _ => 0)))]) rfl ?_
  exact zr R (zAd z u0 u1 u2 u3 u4 u5 u6 u7 0 0 0 0 0 0 0 0 0 0 0) [0, 1, 2, 3, 4, 5, 6, 7, 8] none _ rfl rfl rfl rfl rfl (by decide) (by decide) dzX9_init_78
