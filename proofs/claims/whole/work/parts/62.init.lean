/-! CONSTRUCTORS -/
theorem zk_oi1 : Jvm.Cond.instanceMethod objectInit ∈ zt := by decide +kernel
set_option maxRecDepth 100000 in
theorem zk_oi2 : Jvm.Cond.code objectInit ⟨#[0xb1]⟩ 1 none ∈ zt := List.mem_filter.mpr ⟨List.mem_append_right _ (List.mem_of_getElem? (i := 22) rfl), rfl⟩
theorem fsX0 : (List.range 4).map (fun j => defaultValue (zv_ty TX0 j)) = [.null, .null, .int 0, .int 0] := by decide +kernel
theorem fsX1 : (List.range 5).map (fun j => defaultValue (zv_ty TX1 j)) = [.null, .null, .null, .int 0, .int 0] := by decide +kernel
theorem fsX2 : (List.range 4).map (fun j => defaultValue (zv_ty TX2 j)) = [.null, .null, .int 0, .int 0] := by decide +kernel
theorem fsX3 : (List.range 3).map (fun j => defaultValue (zv_ty TX3 j)) = [.null, .null, .int 0] := by decide +kernel
theorem fsX4 : (List.range 4).map (fun j => defaultValue (zv_ty TX4 j)) = [.null, .null, .int 0, .int 0] := by decide +kernel
theorem fsX5 : (List.range 4).map (fun j => defaultValue (zv_ty TX5 j)) = [.null, .null, .null, .int 0] := by decide +kernel
theorem fsX6 : (List.range 6).map (fun j => defaultValue (zv_ty TX6 j)) = [.null, .null, .null, .int 0, .int 0, .int 0] := by decide +kernel
theorem fsX7 : (List.range 4).map (fun j => defaultValue (zv_ty TX7 j)) = [.null, .null, .int 0, .int 0] := by decide +kernel
theorem fsX8 : (List.range 7).map (fun j => defaultValue (zv_ty TX8 j)) = [.null, .null, .null, .null, .null, .null, .null] := by decide +kernel
theorem fsX9 : (List.range 10).map (fun j => defaultValue (zv_ty TX9 j)) = [.int 0, .null, .null, .null, .null, .int 0, .null, .null, .null, .null] := by decide +kernel
set_option maxHeartbeats 4000000 in
set_option maxRecDepth 100000 in
theorem c_initX0 (K : zK) (z o : Nat) : zM (S := Nat) K yX0_init cX0_init 2 none (zq 1 1 16 16) [.ref z, .ref o] [(z, .inr (0, [.null, .null, .int 0, .int 0]))] (fun _ => True) (fun _ => none) (fun u => [(z, .inr (0, [.ref o, .ref u, .int 0, .int (-1)])), (u, .inl (cI K, 16, .inl (fun _ => 0)))]) := by
  refine zo (by decide) (Nat.le_of_ble_eq_true rfl) fun x C R hin => ?_
  refine zv_go C okX0_init [] 1 ?_
  refine zv_objInit C (by decide +kernel) zk_oi1 zk_oi2 rfl dzX0_init_1 (by decide) (by decide) rfl ?_
  refine zv_go C okX0_init [] 2 ?_
  refine zv_newa C (atype := .int) 0 0 (N' := 16) (a0 := (16, .inl (fun _ => 0))) rfl zk_arrI rfl (fun _ => rfl) rfl (by decide) (by decide) (by decide) dzX0_init_7 (by decide) (by decide) rfl (fun u => ?_)
  refine zv_go C okX0_init [] 1 ?_
  refine ⟨rfl, ?_⟩
  refine zv_to C rfl rfl (ws' := [(z, .inr (0, [.null, .ref u, .int 0, .int 0])), (u, .inl (cI K, 16, .inl (fun _ => 0)))]) rfl ?_
  refine zv_go C okX0_init [] 3 ?_
  refine ⟨rfl, ?_⟩
  refine zv_to C rfl rfl (ws' := [(z, .inr (0, [.null, .ref u, .int 0, .int (-1)])), (u, .inl (cI K, 16, .inl (fun _ => 0)))]) rfl ?_
  refine zv_go C okX0_init [] 2 ?_
  refine zv_to C rfl rfl (ws' := [(z, .inr (0, [.null, .ref u, .int 0, .int (-1)])), (u, .inl (cI K, 16, .inl (fun _ => 0)))]) rfl ?_
  refine zv_putF C hin 0 0 0 2 (T := TX0) rfl (by decide +kernel) rfl rfl rfl rfl (Nat.le_of_ble_eq_true rfl) dzX0_init_19 rfl ?_
  refine zv_to C rfl rfl (ws' := [(z, .inr (0, [.ref o, .ref u, .int 0, .int (-1)])), (u, .inl (cI K, 16, .inl (fun _ => 0)))]) rfl ?_
  exact zr R u [0, 1] none _ rfl rfl trivial rfl rfl (by decide) (by decide) dzX0_init_22
set_option maxHeartbeats 4000000 in
set_option maxRecDepth 100000 in
theorem c_initX1 (K : zK) (z o : Nat) : zM (S := Nat × Nat) K yX1_init cX1_init 2 none (zq 1 2 28 16) [.ref z, .ref o] [(z, .inr (1, [.null, .null, .null, .int 0, .int 0]))] (fun _ => True) (fun _ => none) (fun u => [(z, .inr (1, [.ref o, .ref u.1, .ref u.2, .int 0, .int (-1)])), (u.1, .inl (cI K, 14, .inl (fun _ => 0))), (u.2, .inl (cI K, 14, .inl (fun _ => 0)))]) := by
  refine zo (by decide) (Nat.le_of_ble_eq_true rfl) fun x C R hin => ?_
  refine zv_go C okX1_init [] 1 ?_
  refine zv_objInit C (by decide +kernel) zk_oi1 zk_oi2 rfl dzX1_init_1 (by decide) (by decide) rfl ?_
  refine zv_go C okX1_init [] 2 ?_
  refine zv_newa C (atype := .int) 0 0 (N' := 14) (a0 := (14, .inl (fun _ => 0))) rfl zk_arrI rfl (fun _ => rfl) rfl (by decide) (by decide) (by decide) dzX1_init_7 (by decide) (by decide) rfl (fun u => ?_)
  refine zv_to C rfl rfl (ws' := [(z, .inr (1, [.null, .null, .null, .int 0, .int 0])), (u, .inl (cI K, 14, .inl (fun _ => 0)))]) rfl ?_
  refine zv_putF C hin 0 1 1 2 (T := TX1) rfl (by decide +kernel) rfl rfl rfl rfl (Nat.le_of_ble_eq_true rfl) dzX1_init_9 rfl ?_
  refine zv_to C rfl rfl (ws' := [(z, .inr (1, [.null, .ref u, .null, .int 0, .int 0])), (u, .inl (cI K, 14, .inl (fun _ => 0)))]) rfl ?_
  refine zv_go C okX1_init [] 2 ?_
  refine zv_newa C (atype := .int) 0 0 (N' := 14) (a0 := (14, .inl (fun _ => 0))) rfl zk_arrI rfl (fun _ => rfl) rfl (by decide) (by decide) (by decide) dzX1_init_15 (by decide) (by decide) rfl (fun w => ?_)
  refine zv_to C rfl rfl (ws' := [(z, .inr (1, [.null, .ref u, .null, .int 0, .int 0])), (u, .inl (cI K, 14, .inl (fun _ => 0))), (w, .inl (cI K, 14, .inl (fun _ => 0)))]) rfl ?_
  refine zv_putF C hin 0 1 2 2 (T := TX1) rfl (by decide +kernel) rfl rfl rfl rfl (Nat.le_of_ble_eq_true rfl) dzX1_init_17 rfl ?_
  refine zv_to C rfl rfl (ws' := [(z, .inr (1, [.null, .ref u, .ref w, .int 0, .int 0])), (u, .inl (cI K, 14, .inl (fun _ => 0))), (w, .inl (cI K, 14, .inl (fun _ => 0)))]) rfl ?_
  refine zv_go C okX1_init [] 3 ?_
  refine ⟨rfl, ?_⟩
  refine zv_to C rfl rfl (ws' := [(z, .inr (1, [.null, .ref u, .ref w, .int 0, .int (-1)])), (u, .inl (cI K, 14, .inl (fun _ => 0))), (w, .inl (cI K, 14, .inl (fun _ => 0)))]) rfl ?_
  refine zv_go C okX1_init [] 2 ?_
  refine zv_to C rfl rfl (ws' := [(z, .inr (1, [.null, .ref u, .ref w, .int 0, .int (-1)])), (u, .inl (cI K, 14, .inl (fun _ => 0))), (w, .inl (cI K, 14, .inl (fun _ => 0)))]) rfl ?_
  refine zv_putF C hin 0 1 0 2 (T := TX1) rfl (by decide +kernel) rfl rfl rfl rfl (Nat.le_of_ble_eq_true rfl) dzX1_init_27 rfl ?_
  refine zv_to C rfl rfl (ws' := [(z, .inr (1, [.ref o, .ref u, .ref w, .int 0, .int (-1)])), (u, .inl (cI K, 14, .inl (fun _ => 0))), (w, .inl (cI K, 14, .inl (fun _ => 0)))]) rfl ?_
  exact zr R (u, w) [0, 1, 2] none _ rfl rfl trivial rfl rfl (by decide) (by decide) dzX1_init_30
set_option maxHeartbeats 4000000 in
set_option maxRecDepth 100000 in
theorem c_initX2 (K : zK) (z o : Nat) : zM (S := Nat) K yX2_init cX2_init 2 none (zq 1 1 14 16) [.ref z, .ref o] [(z, .inr (2, [.null, .null, .int 0, .int 0]))] (fun _ => True) (fun _ => none) (fun u => [(z, .inr (2, [.ref o, .ref u, .int 0, .int 0])), (u, .inl (cI K, 14, .inl (fun _ => 0)))]) := by
  refine zo (by decide) (Nat.le_of_ble_eq_true rfl) fun x C R hin => ?_
  refine zv_go C okX2_init [] 1 ?_
  refine zv_objInit C (by decide +kernel) zk_oi1 zk_oi2 rfl dzX2_init_1 (by decide) (by decide) rfl ?_
  refine zv_go C okX2_init [] 2 ?_
  refine zv_newa C (atype := .int) 0 0 (N' := 14) (a0 := (14, .inl (fun _ => 0))) rfl zk_arrI rfl (fun _ => rfl) rfl (by decide) (by decide) (by decide) dzX2_init_7 (by decide) (by decide) rfl (fun u => ?_)
  refine zv_to C rfl rfl (ws' := [(z, .inr (2, [.null, .null, .int 0, .int 0])), (u, .inl (cI K, 14, .inl (fun _ => 0)))]) rfl ?_
  refine zv_putF C hin 0 2 1 2 (T := TX2) rfl (by decide +kernel) rfl rfl rfl rfl (Nat.le_of_ble_eq_true rfl) dzX2_init_9 rfl ?_
  refine zv_to C rfl rfl (ws' := [(z, .inr (2, [.null, .ref u, .int 0, .int 0])), (u, .inl (cI K, 14, .inl (fun _ => 0)))]) rfl ?_
  refine zv_go C okX2_init [] 2 ?_
  refine zv_to C rfl rfl (ws' := [(z, .inr (2, [.null, .ref u, .int 0, .int 0])), (u, .inl (cI K, 14, .inl (fun _ => 0)))]) rfl ?_
  refine zv_putF C hin 0 2 0 2 (T := TX2) rfl (by decide +kernel) rfl rfl rfl rfl (Nat.le_of_ble_eq_true rfl) dzX2_init_14 rfl ?_
  refine zv_to C rfl rfl (ws' := [(z, .inr (2, [.ref o, .ref u, .int 0, .int 0])), (u, .inl (cI K, 14, .inl (fun _ => 0)))]) rfl ?_
  exact zr R u [0, 1] none _ rfl rfl trivial rfl rfl (by decide) (by decide) dzX2_init_17
set_option maxHeartbeats 4000000 in
set_option maxRecDepth 100000 in
theorem c_initX3 (K : zK) (z : Nat) : zM (S := Nat × Nat) K yX3_init cX3_init 1 none (zq 1 2 32 16) [.ref z] [(z, .inr (3, [.null, .null, .int 0]))] (fun _ => True) (fun _ => none) (fun u => [(z, .inr (3, [.ref u.1, .ref u.2, .int 0])), (u.1, .inl (cI K, 16, .inl (fun _ => 0))), (u.2, .inl (cI K, 16, .inl (fun _ => 0)))]) := by
  refine zo (by decide) (Nat.le_of_ble_eq_true rfl) fun x C R hin => ?_
  refine zv_go C okX3_init [] 1 ?_
  refine zv_objInit C (by decide +kernel) zk_oi1 zk_oi2 rfl dzX3_init_1 (by decide) (by decide) rfl ?_
  refine zv_go C okX3_init [] 2 ?_
  refine zv_newa C (atype := .int) 0 0 (N' := 16) (a0 := (16, .inl (fun _ => 0))) rfl zk_arrI rfl (fun _ => rfl) rfl (by decide) (by decide) (by decide) dzX3_init_7 (by decide) (by decide) rfl (fun u => ?_)
  refine zv_go C okX3_init [] 1 ?_
  refine ⟨rfl, ?_⟩
  refine zv_to C rfl rfl (ws' := [(z, .inr (3, [.ref u, .null, .int 0])), (u, .inl (cI K, 16, .inl (fun _ => 0)))]) rfl ?_
  refine zv_go C okX3_init [] 2 ?_
  refine zv_newa C (atype := .int) 0 0 (N' := 16) (a0 := (16, .inl (fun _ => 0))) rfl zk_arrI rfl (fun _ => rfl) rfl (by decide) (by decide) (by decide) dzX3_init_15 (by decide) (by decide) rfl (fun w => ?_)
  refine zv_go C okX3_init [] 1 ?_
  refine ⟨rfl, ?_⟩
  refine zv_to C rfl rfl (ws' := [(z, .inr (3, [.ref u, .ref w, .int 0])), (u, .inl (cI K, 16, .inl (fun _ => 0))), (w, .inl (cI K, 16, .inl (fun _ => 0)))]) rfl ?_
  exact zr R (u, w) [0, 1, 2] none _ rfl rfl trivial rfl rfl (by decide) (by decide) dzX3_init_20
set_option maxHeartbeats 4000000 in
set_option maxRecDepth 100000 in
theorem c_initX4 (K : zK) (z : Nat) : zM (S := Nat × Nat) K yX4_init cX4_init 1 none (zq 1 2 28 16) [.ref z] [(z, .inr (4, [.null, .null, .int 0, .int 0]))] (fun _ => True) (fun _ => none) (fun u => [(z, .inr (4, [.ref u.1, .ref u.2, .int 1, .int 0])), (u.1, .inl (cI K, 14, .inl (fun _ => 0))), (u.2, .inl (cI K, 14, .inl (fun _ => 0)))]) := by
  refine zo (by decide) (Nat.le_of_ble_eq_true rfl) fun x C R hin => ?_
  refine zv_go C okX4_init [] 1 ?_
  refine zv_objInit C (by decide +kernel) zk_oi1 zk_oi2 rfl dzX4_init_1 (by decide) (by decide) rfl ?_
  refine zv_go C okX4_init [] 2 ?_
  refine zv_newa C (atype := .int) 0 0 (N' := 14) (a0 := (14, .inl (fun _ => 0))) rfl zk_arrI rfl (fun _ => rfl) rfl (by decide) (by decide) (by decide) dzX4_init_7 (by decide) (by decide) rfl (fun u => ?_)
  refine zv_to C rfl rfl (ws' := [(z, .inr (4, [.null, .null, .int 0, .int 0])), (u, .inl (cI K, 14, .inl (fun _ => 0)))]) rfl ?_
  refine zv_putF C hin 0 4 0 2 (T := TX4) rfl (by decide +kernel) rfl rfl rfl rfl (Nat.le_of_ble_eq_true rfl) dzX4_init_9 rfl ?_
  refine zv_to C rfl rfl (ws' := [(z, .inr (4, [.ref u, .null, .int 0, .int 0])), (u, .inl (cI K, 14, .inl (fun _ => 0)))]) rfl ?_
  refine zv_go C okX4_init [] 2 ?_
  refine zv_newa C (atype := .int) 0 0 (N' := 14) (a0 := (14, .inl (fun _ => 0))) rfl zk_arrI rfl (fun _ => rfl) rfl (by decide) (by decide) (by decide) dzX4_init_15 (by decide) (by decide) rfl (fun w => ?_)
  refine zv_to C rfl rfl (ws' := [(z, .inr (4, [.ref u, .null, .int 0, .int 0])), (u, .inl (cI K, 14, .inl (fun _ => 0))), (w, .inl (cI K, 14, .inl (fun _ => 0)))]) rfl ?_
  refine zv_putF C hin 0 4 1 2 (T := TX4) rfl (by decide +kernel) rfl rfl rfl rfl (Nat.le_of_ble_eq_true rfl) dzX4_init_17 rfl ?_
  refine zv_to C rfl rfl (ws' := [(z, .inr (4, [.ref u, .ref w, .int 0, .int 0])), (u, .inl (cI K, 14, .inl (fun _ => 0))), (w, .inl (cI K, 14, .inl (fun _ => 0)))]) rfl ?_
  refine zv_go C okX4_init [] 3 ?_
  refine ⟨rfl, ?_⟩
  refine zv_to C rfl rfl (ws' := [(z, .inr (4, [.ref u, .ref w, .int 1, .int 0])), (u, .inl (cI K, 14, .inl (fun _ => 0))), (w, .inl (cI K, 14, .inl (fun _ => 0)))]) rfl ?_
  refine zv_go C okX4_init [] 3 ?_
  refine ⟨rfl, ?_⟩
  refine zv_to C rfl rfl (ws' := [(z, .inr (4, [.ref u, .ref w, .int 1, .int 0])), (u, .inl (cI K, 14, .inl (fun _ => 0))), (w, .inl (cI K, 14, .inl (fun _ => 0)))]) rfl ?_
  exact zr R (u, w) [0, 1, 2] none _ rfl rfl trivial rfl rfl (by decide) (by decide) dzX4_init_30
set_option maxHeartbeats 4000000 in
set_option maxRecDepth 100000 in
theorem c_initX5 (K : zK) (z o m : Nat) : zM (S := Nat) K yX5_init cX5_init 3 none (zq 1 1 14 16) [.ref z, .ref o, .ref m] [(z, .inr (5, [.null, .null, .null, .int 0]))] (fun _ => True) (fun _ => none) (fun u => [(z, .inr (5, [.ref o, .ref m, .ref u, .int (-1)])), (u, .inl (cI K, 14, .inl (fun _ => 0)))]) := by
  refine zo (by decide) (Nat.le_of_ble_eq_true rfl) fun x C R hin => ?_
  refine zv_go C okX5_init [] 1 ?_
  refine zv_objInit C (by decide +kernel) zk_oi1 zk_oi2 rfl dzX5_init_1 (by decide) (by decide) rfl ?_
  refine zv_go C okX5_init [] 2 ?_
  refine zv_newa C (atype := .int) 0 0 (N' := 14) (a0 := (14, .inl (fun _ => 0))) rfl zk_arrI rfl (fun _ => rfl) rfl (by decide) (by decide) (by decide) dzX5_init_7 (by decide) (by decide) rfl (fun u => ?_)
  refine zv_to C rfl rfl (ws' := [(z, .inr (5, [.null, .null, .null, .int 0])), (u, .inl (cI K, 14, .inl (fun _ => 0)))]) rfl ?_
  refine zv_putF C hin 0 5 2 2 (T := TX5) rfl (by decide +kernel) rfl rfl rfl rfl (Nat.le_of_ble_eq_true rfl) dzX5_init_9 rfl ?_
  refine zv_to C rfl rfl (ws' := [(z, .inr (5, [.null, .null, .ref u, .int 0])), (u, .inl (cI K, 14, .inl (fun _ => 0)))]) rfl ?_
  refine zv_go C okX5_init [] 3 ?_
  refine ⟨rfl, ?_⟩
  refine zv_to C rfl rfl (ws' := [(z, .inr (5, [.null, .null, .ref u, .int (-1)])), (u, .inl (cI K, 14, .inl (fun _ => 0)))]) rfl ?_
  refine zv_go C okX5_init [] 2 ?_
  refine zv_to C rfl rfl (ws' := [(z, .inr (5, [.null, .null, .ref u, .int (-1)])), (u, .inl (cI K, 14, .inl (fun _ => 0)))]) rfl ?_
  refine zv_putF C hin 0 5 0 2 (T := TX5) rfl (by decide +kernel) rfl rfl rfl rfl (Nat.le_of_ble_eq_true rfl) dzX5_init_19 rfl ?_
  refine zv_to C rfl rfl (ws' := [(z, .inr (5, [.ref o, .null, .ref u, .int (-1)])), (u, .inl (cI K, 14, .inl (fun _ => 0)))]) rfl ?_
  refine zv_go C okX5_init [] 2 ?_
  refine zv_to C rfl rfl (ws' := [(z, .inr (5, [.ref o, .null, .ref u, .int (-1)])), (u, .inl (cI K, 14, .inl (fun _ => 0)))]) rfl ?_
  refine zv_putF C hin 0 5 1 2 (T := TX5) rfl (by decide +kernel) rfl rfl rfl rfl (Nat.le_of_ble_eq_true rfl) dzX5_init_24 rfl ?_
  refine zv_to C rfl rfl (ws' := [(z, .inr (5, [.ref o, .ref m, .ref u, .int (-1)])), (u, .inl (cI K, 14, .inl (fun _ => 0)))]) rfl ?_
  exact zr R u [0, 1] none _ rfl rfl trivial rfl rfl (by decide) (by decide) dzX5_init_27
set_option maxHeartbeats 4000000 in
set_option maxRecDepth 100000 in
theorem c_initX6 (K : zK) (z o : Nat) : zM (S := Nat × Nat) K yX6_init cX6_init 2 none (zq 1 2 32 16) [.ref z, .ref o] [(z, .inr (6, [.null, .null, .null, .int 0, .int 0, .int 0]))] (fun _ => True) (fun _ => none) (fun u => [(z, .inr (6, [.ref o, .ref u.1, .ref u.2, .int 0, .int (-1), .int (-1)])), (u.1, .inl (cJ K, 16, .inr (.inl (fun _ => 0)))), (u.2, .inl (cJ K, 16, .inr (.inl (fun _ => 0))))]) := by
  refine zo (by decide) (Nat.le_of_ble_eq_true rfl) fun x C R hin => ?_
  refine zv_go C okX6_init [] 1 ?_
  refine zv_objInit C (by decide +kernel) zk_oi1 zk_oi2 rfl dzX6_init_1 (by decide) (by decide) rfl ?_
  refine zv_go C okX6_init [] 2 ?_
  refine zv_newa C (atype := .long) 1 1 (N' := 16) (a0 := (16, .inr (.inl (fun _ => 0)))) rfl zk_arrJ rfl (fun _ => rfl) rfl (by decide) (by decide) (by decide) dzX6_init_7 (by decide) (by decide) rfl (fun u => ?_)
  refine zv_go C okX6_init [] 1 ?_
  refine ⟨rfl, ?_⟩
  refine zv_to C rfl rfl (ws' := [(z, .inr (6, [.null, .ref u, .null, .int 0, .int 0, .int 0])), (u, .inl (cJ K, 16, .inr (.inl (fun _ => 0))))]) rfl ?_
  refine zv_go C okX6_init [] 2 ?_
  refine zv_newa C (atype := .long) 1 1 (N' := 16) (a0 := (16, .inr (.inl (fun _ => 0)))) rfl zk_arrJ rfl (fun _ => rfl) rfl (by decide) (by decide) (by decide) dzX6_init_15 (by decide) (by decide) rfl (fun w => ?_)
  refine zv_go C okX6_init [] 1 ?_
  refine ⟨rfl, ?_⟩
  refine zv_to C rfl rfl (ws' := [(z, .inr (6, [.null, .ref u, .ref w, .int 0, .int 0, .int 0])), (u, .inl (cJ K, 16, .inr (.inl (fun _ => 0)))), (w, .inl (cJ K, 16, .inr (.inl (fun _ => 0))))]) rfl ?_
  refine zv_go C okX6_init [] 3 ?_
  refine ⟨rfl, ?_⟩
  refine zv_to C rfl rfl (ws' := [(z, .inr (6, [.null, .ref u, .ref w, .int 0, .int (-1), .int 0])), (u, .inl (cJ K, 16, .inr (.inl (fun _ => 0)))), (w, .inl (cJ K, 16, .inr (.inl (fun _ => 0))))]) rfl ?_
  refine zv_go C okX6_init [] 3 ?_
  refine ⟨rfl, ?_⟩
  refine zv_to C rfl rfl (ws' := [(z, .inr (6, [.null, .ref u, .ref w, .int 0, .int (-1), .int (-1)])), (u, .inl (cJ K, 16, .inr (.inl (fun _ => 0)))), (w, .inl (cJ K, 16, .inr (.inl (fun _ => 0))))]) rfl ?_
  refine zv_go C okX6_init [] 2 ?_
  refine zv_to C rfl rfl (ws' := [(z, .inr (6, [.null, .ref u, .ref w, .int 0, .int (-1), .int (-1)])), (u, .inl (cJ K, 16, .inr (.inl (fun _ => 0)))), (w, .inl (cJ K, 16, .inr (.inl (fun _ => 0))))]) rfl ?_
  refine zv_putF C hin 0 6 0 2 (T := TX6) rfl (by decide +kernel) rfl rfl rfl rfl (Nat.le_of_ble_eq_true rfl) dzX6_init_32 rfl ?_
  refine zv_to C rfl rfl (ws' := [(z, .inr (6, [.ref o, .ref u, .ref w, .int 0, .int (-1), .int (-1)])), (u, .inl (cJ K, 16, .inr (.inl (fun _ => 0)))), (w, .inl (cJ K, 16, .inr (.inl (fun _ => 0))))]) rfl ?_
  exact zr R (u, w) [0, 1, 2] none _ rfl rfl trivial rfl rfl (by decide) (by decide) dzX6_init_35
set_option maxHeartbeats 4000000 in
set_option maxRecDepth 100000 in
theorem c_initX7 (K : zK) (z o m : Nat) : zM (S := Unit) K yX7_init cX7_init 3 none (zq 1 0 0 16) [.ref z, .ref o, .ref m] [(z, .inr (7, [.null, .null, .int 0, .int 0]))] (fun _ => True) (fun _ => none) (fun u => [(z, .inr (7, [.ref o, .ref m, .int 0, .int (-1)]))]) := by
  refine zo (by decide) (Nat.le_of_ble_eq_true rfl) fun x C R hin => ?_
  refine zv_go C okX7_init [] 1 ?_
  refine zv_objInit C (by decide +kernel) zk_oi1 zk_oi2 rfl dzX7_init_1 (by decide) (by decide) rfl ?_
  refine zv_go C okX7_init [] 3 ?_
  refine ⟨rfl, ?_⟩
  refine zv_to C rfl rfl (ws' := [(z, .inr (7, [.null, .null, .int 0, .int (-1)]))]) rfl ?_
  refine zv_go C okX7_init [] 2 ?_
  refine zv_to C rfl rfl (ws' := [(z, .inr (7, [.null, .null, .int 0, .int (-1)]))]) rfl ?_
  refine zv_putF C hin 0 7 0 2 (T := TX7) rfl (by decide +kernel) rfl rfl rfl rfl (Nat.le_of_ble_eq_true rfl) dzX7_init_11 rfl ?_
  refine zv_to C rfl rfl (ws' := [(z, .inr (7, [.ref o, .null, .int 0, .int (-1)]))]) rfl ?_
  refine zv_go C okX7_init [] 2 ?_
  refine zv_to C rfl rfl (ws' := [(z, .inr (7, [.ref o, .null, .int 0, .int (-1)]))]) rfl ?_
  refine zv_putF C hin 0 7 1 2 (T := TX7) rfl (by decide +kernel) rfl rfl rfl rfl (Nat.le_of_ble_eq_true rfl) dzX7_init_16 rfl ?_
  refine zv_to C rfl rfl (ws' := [(z, .inr (7, [.ref o, .ref m, .int 0, .int (-1)]))]) rfl ?_
  exact zr R () [0] none _ rfl rfl trivial rfl rfl (by decide) (by decide) dzX7_init_19
