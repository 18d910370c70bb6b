def tbX8_init : List zv_I := [(0, .aload_n 0, 1, (0, 0, 0, 0, 0, 0)), (1, .invokespecial 1, 4, (0, 0, 0, 0, 0, 0)), (4, .aload_n 0, 5, (0, 0, 0, 0, 0, 0)), (5, .new 7, 8, (0, 0, 0, 0, 0, 0)), (8, .dup, 9, (0, 0, 0, 0, 0, 0)), (9, .invokespecial 9, 12, (0, 0, 0, 0, 0, 0)), (15, .new 16, 18, (0, 0, 0, 0, 0, 0)), (18, .dup, 19, (0, 0, 0, 0, 0, 0)), (19, .aload_n 0, 20, (0, 0, 0, 0, 0, 0)), (20, .getfield 10, 23, (0, 8, 0, 0, 0, 0)), (23, .invokespecial 18, 26, (0, 0, 0, 0, 0, 0)), (26, .astore_n 1, 27, (0, 0, 0, 0, 0, 0)), (27, .aload_n 0, 28, (0, 0, 0, 0, 0, 0)), (28, .new 21, 31, (0, 0, 0, 0, 0, 0)), (31, .dup, 32, (0, 0, 0, 0, 0, 0)), (32, .aload_n 0, 33, (0, 0, 0, 0, 0, 0)), (33, .getfield 10, 36, (0, 8, 0, 0, 0, 0)), (36, .invokespecial 23, 39, (0, 0, 0, 0, 0, 0)), (42, .aload_n 0, 43, (0, 0, 0, 0, 0, 0)), (43, .new 28, 46, (0, 0, 0, 0, 0, 0)), (46, .dup, 47, (0, 0, 0, 0, 0, 0)), (47, .aload_n 0, 48, (0, 0, 0, 0, 0, 0)), (48, .getfield 10, 51, (0, 8, 0, 0, 0, 0)), (51, .aload_n 1, 52, (0, 0, 0, 0, 0, 0)), (52, .invokespecial 30, 55, (0, 0, 0, 0, 0, 0)), (58, .aload_n 0, 59, (0, 0, 0, 0, 0, 0)), (59, .new 37, 62, (0, 0, 0, 0, 0, 0)), (62, .dup, 63, (0, 0, 0, 0, 0, 0)), (63, .aload_n 0, 64, (0, 0, 0, 0, 0, 0)), (64, .getfield 10, 67, (0, 8, 0, 0, 0, 0)), (67, .aload_n 1, 68, (0, 0, 0, 0, 0, 0)), (68, .invokespecial 39, 71, (0, 0, 0, 0, 0, 0)), (74, .aload_n 0, 75, (0, 0, 0, 0, 0, 0)), (75, .new 44, 78, (0, 0, 0, 0, 0, 0)), (78, .dup, 79, (0, 0, 0, 0, 0, 0)), (79, .aload_n 0, 80, (0, 0, 0, 0, 0, 0)), (80, .getfield 10, 83, (0, 8, 0, 0, 0, 0)), (83, .invokespecial 46, 86, (0, 0, 0, 0, 0, 0)), (89, .aload_n 0, 90, (0, 0, 0, 0, 0, 0)), (90, .new 51, 93, (0, 0, 0, 0, 0, 0)), (93, .dup, 94, (0, 0, 0, 0, 0, 0)), (94, .aload_n 0, 95, (0, 0, 0, 0, 0, 0)), (95, .getfield 10, 98, (0, 8, 0, 0, 0, 0)), (98, .invokespecial 53, 101, (0, 0, 0, 0, 0, 0)), (104, .aload_n 0, 105, (0, 0, 0, 0, 0, 0)), (105, .new 58, 108, (0, 0, 0, 0, 0, 0)), (108, .dup, 109, (0, 0, 0, 0, 0, 0)), (109, .invokespecial 60, 112, (0, 0, 0, 0, 0, 0)), (115, .return_, 116, (0, 0, 0, 0, 0, 0))]
theorem okX8_init : zv_ok 2 cX8_init RX8 zt vwCl tbX8_init = true := by decide +kernel
theorem dzX8_init_1 : decode cX8_init 1 = .ok (.invokespecial 1, 3) := by decide +kernel
theorem dzX8_init_5 : decode cX8_init 5 = .ok (.new 7, 3) := by decide +kernel
theorem dzX8_init_9 : decode cX8_init 9 = .ok (.invokespecial 9, 3) := by decide +kernel
theorem dzX8_init_12 : decode cX8_init 12 = .ok (.putfield 10, 3) := by decide +kernel
theorem dzX8_init_15 : decode cX8_init 15 = .ok (.new 16, 3) := by decide +kernel
theorem dzX8_init_23 : decode cX8_init 23 = .ok (.invokespecial 18, 3) := by decide +kernel
theorem dzX8_init_28 : decode cX8_init 28 = .ok (.new 21, 3) := by decide +kernel
theorem dzX8_init_36 : decode cX8_init 36 = .ok (.invokespecial 23, 3) := by decide +kernel
theorem dzX8_init_39 : decode cX8_init 39 = .ok (.putfield 24, 3) := by decide +kernel
theorem dzX8_init_43 : decode cX8_init 43 = .ok (.new 28, 3) := by decide +kernel
theorem dzX8_init_52 : decode cX8_init 52 = .ok (.invokespecial 30, 3) := by decide +kernel
theorem dzX8_init_55 : decode cX8_init 55 = .ok (.putfield 33, 3) := by decide +kernel
theorem dzX8_init_59 : decode cX8_init 59 = .ok (.new 37, 3) := by decide +kernel
theorem dzX8_init_68 : decode cX8_init 68 = .ok (.invokespecial 39, 3) := by decide +kernel
theorem dzX8_init_71 : decode cX8_init 71 = .ok (.putfield 40, 3) := by decide +kernel
theorem dzX8_init_75 : decode cX8_init 75 = .ok (.new 44, 3) := by decide +kernel
theorem dzX8_init_83 : decode cX8_init 83 = .ok (.invokespecial 46, 3) := by decide +kernel
theorem dzX8_init_86 : decode cX8_init 86 = .ok (.putfield 47, 3) := by decide +kernel
theorem dzX8_init_90 : decode cX8_init 90 = .ok (.new 51, 3) := by decide +kernel
theorem dzX8_init_98 : decode cX8_init 98 = .ok (.invokespecial 53, 3) := by decide +kernel
theorem dzX8_init_101 : decode cX8_init 101 = .ok (.putfield 54, 3) := by decide +kernel
theorem dzX8_init_105 : decode cX8_init 105 = .ok (.new 58, 3) := by decide +kernel
theorem dzX8_init_109 : decode cX8_init 109 = .ok (.invokespecial 60, 3) := by decide +kernel
theorem dzX8_init_112 : decode cX8_init 112 = .ok (.putfield 61, 3) := by decide +kernel
theorem dzX8_init_115 : decode cX8_init 115 = .ok (.return_, 1) := by decide +kernel
set_option maxRecDepth 100000 in
theorem inX8_init : Jvm.Cond.code yX8_init cX8_init 2 none ∈ zt := List.mem_filter.mpr ⟨List.mem_append_right _ (List.mem_of_getElem? (i := 19) rfl), rfl⟩
def tbX8_begin : List zv_I := [(0, .iload_n 1, 1, (0, 0, 0, 0, 0, 0)), (1, .iconst 1, 2, (0, 0, 0, 0, 1, 0)), (2, .if_icmp .lt 9, 5, (11, 0, 0, 0, 0, 0)), (5, .iload_n 1, 6, (0, 0, 0, 0, 0, 0)), (6, .bipush 14, 8, (0, 0, 0, 0, 14, 0)), (8, .if_icmp .le 5, 11, (13, 0, 0, 0, 0, 0)), (11, .iconst (-1), 12, (0, 0, 0, 0, (-1), 0)), (12, .ireturn, 13, (0, 0, 0, 0, 0, 0)), (13, .aload_n 0, 14, (0, 0, 0, 0, 0, 0)), (14, .getfield 10, 17, (0, 8, 0, 0, 0, 0)), (17, .iload_n 1, 18, (0, 0, 0, 0, 0, 0)), (18, .invokevirtual 65, 21, (0, 0, 0, 0, 0, 0)), (21, .iload_n 1, 22, (0, 0, 0, 0, 0, 0)), (22, .ireturn, 23, (0, 0, 0, 0, 0, 0))]
theorem okX8_begin : zv_ok 2 cX8_begin RX8 zt vwCl tbX8_begin = true := by decide +kernel
theorem dzX8_begin_12 : decode cX8_begin 12 = .ok (.ireturn, 1) := by decide +kernel
theorem dzX8_begin_18 : decode cX8_begin 18 = .ok (.invokevirtual 65, 3) := by decide +kernel
theorem dzX8_begin_22 : decode cX8_begin 22 = .ok (.ireturn, 1) := by decide +kernel
set_option maxRecDepth 100000 in
theorem inX8_begin : Jvm.Cond.code yX8_begin cX8_begin 2 ((some .int)) ∈ zt := List.mem_filter.mpr ⟨List.mem_append_right _ (List.mem_of_getElem? (i := 226) rfl), rfl⟩
def tbX8_put : List zv_I := [(0, .aload_n 0, 1, (0, 0, 0, 0, 0, 0)), (1, .getfield 10, 4, (0, 8, 0, 0, 0, 0)), (4, .iload_n 1, 5, (0, 0, 0, 0, 0, 0)), (5, .invokevirtual 69, 8, (0, 0, 0, 0, 0, 0)), (8, .ifCond .eq 31, 11, (39, 0, 0, 0, 0, 0)), (11, .aload_n 0, 12, (0, 0, 0, 0, 0, 0)), (12, .getfield 10, 15, (0, 8, 0, 0, 0, 0)), (15, .iload_n 2, 16, (0, 0, 0, 0, 0, 0)), (16, .invokevirtual 69, 19, (0, 0, 0, 0, 0, 0)), (19, .ifCond .eq 20, 22, (39, 0, 0, 0, 0, 0)), (22, .iload_n 1, 23, (0, 0, 0, 0, 0, 0)), (23, .iload_n 2, 24, (0, 0, 0, 0, 0, 0)), (24, .if_icmp .eq 15, 27, (39, 0, 0, 0, 0, 0)), (27, .aload_n 0, 28, (0, 0, 0, 0, 0, 0)), (28, .getfield 10, 31, (0, 8, 0, 0, 0, 0)), (31, .iload_n 2, 32, (0, 0, 0, 0, 0, 0)), (32, .iload_n 1, 33, (0, 0, 0, 0, 0, 0)), (33, .invokevirtual 73, 36, (0, 0, 0, 0, 0, 0)), (36, .ifCond .eq 5, 39, (41, 0, 0, 0, 0, 0)), (39, .iconst (-1), 40, (0, 0, 0, 0, (-1), 0)), (40, .ireturn, 41, (0, 0, 0, 0, 0, 0)), (41, .aload_n 0, 42, (0, 0, 0, 0, 0, 0)), (42, .getfield 10, 45, (0, 8, 0, 0, 0, 0)), (45, .iload_n 1, 46, (0, 0, 0, 0, 0, 0)), (46, .iload_n 2, 47, (0, 0, 0, 0, 0, 0)), (47, .invokevirtual 77, 50, (0, 0, 0, 0, 0, 0)), (50, .ireturn, 51, (0, 0, 0, 0, 0, 0))]
theorem okX8_put : zv_ok 3 cX8_put RX8 zt vwCl tbX8_put = true := by decide +kernel
theorem dzX8_put_5 : decode cX8_put 5 = .ok (.invokevirtual 69, 3) := by decide +kernel
theorem dzX8_put_16 : decode cX8_put 16 = .ok (.invokevirtual 69, 3) := by decide +kernel
theorem dzX8_put_33 : decode cX8_put 33 = .ok (.invokevirtual 73, 3) := by decide +kernel
theorem dzX8_put_40 : decode cX8_put 40 = .ok (.ireturn, 1) := by decide +kernel
theorem dzX8_put_47 : decode cX8_put 47 = .ok (.invokevirtual 77, 3) := by decide +kernel
theorem dzX8_put_50 : decode cX8_put 50 = .ok (.ireturn, 1) := by decide +kernel
set_option maxRecDepth 100000 in
theorem inX8_put : Jvm.Cond.code yX8_put cX8_put 3 ((some .int)) ∈ zt := List.mem_filter.mpr ⟨List.mem_append_right _ (List.mem_of_getElem? (i := 234) rfl), rfl⟩
def tbX8_free : List zv_I := [(0, .aload_n 0, 1, (0, 0, 0, 0, 0, 0)), (1, .getfield 10, 4, (0, 8, 0, 0, 0, 0)), (4, .iload_n 1, 5, (0, 0, 0, 0, 0, 0)), (5, .invokevirtual 69, 8, (0, 0, 0, 0, 0, 0)), (8, .ifCond .eq 14, 11, (22, 0, 0, 0, 0, 0)), (11, .aload_n 0, 12, (0, 0, 0, 0, 0, 0)), (12, .getfield 10, 15, (0, 8, 0, 0, 0, 0)), (15, .iload_n 1, 16, (0, 0, 0, 0, 0, 0)), (16, .invokevirtual 81, 19, (0, 0, 0, 0, 0, 0)), (19, .goto 4, 22, (23, 0, 0, 0, 0, 0)), (22, .iconst (-1), 23, (0, 0, 0, 0, (-1), 0)), (23, .ireturn, 24, (0, 0, 0, 0, 0, 0))]
theorem okX8_free : zv_ok 2 cX8_free RX8 zt vwCl tbX8_free = true := by decide +kernel
theorem dzX8_free_5 : decode cX8_free 5 = .ok (.invokevirtual 69, 3) := by decide +kernel
theorem dzX8_free_16 : decode cX8_free 16 = .ok (.invokevirtual 81, 3) := by decide +kernel
theorem dzX8_free_23 : decode cX8_free 23 = .ok (.ireturn, 1) := by decide +kernel
set_option maxRecDepth 100000 in
theorem inX8_free : Jvm.Cond.code yX8_free cX8_free 2 ((some .int)) ∈ zt := List.mem_filter.mpr ⟨List.mem_append_right _ (List.mem_of_getElem? (i := 268) rfl), rfl⟩
def tbX8_isBelow : List zv_I := [(0, .aload_n 0, 1, (0, 0, 0, 0, 0, 0)), (1, .getfield 10, 4, (0, 8, 0, 0, 0, 0)), (4, .iload_n 1, 5, (0, 0, 0, 0, 0, 0)), (5, .invokevirtual 69, 8, (0, 0, 0, 0, 0, 0)), (8, .ifCond .eq 30, 11, (38, 0, 0, 0, 0, 0)), (11, .aload_n 0, 12, (0, 0, 0, 0, 0, 0)), (12, .getfield 10, 15, (0, 8, 0, 0, 0, 0)), (15, .iload_n 2, 16, (0, 0, 0, 0, 0, 0)), (16, .invokevirtual 69, 19, (0, 0, 0, 0, 0, 0)), (19, .ifCond .eq 19, 22, (38, 0, 0, 0, 0, 0)), (22, .aload_n 0, 23, (0, 0, 0, 0, 0, 0)), (23, .getfield 10, 26, (0, 8, 0, 0, 0, 0)), (26, .iload_n 1, 27, (0, 0, 0, 0, 0, 0)), (27, .iload_n 2, 28, (0, 0, 0, 0, 0, 0)), (28, .invokevirtual 73, 31, (0, 0, 0, 0, 0, 0)), (31, .ifCond .eq 7, 34, (38, 0, 0, 0, 0, 0)), (34, .iconst 1, 35, (0, 0, 0, 0, 1, 0)), (35, .goto 4, 38, (39, 0, 0, 0, 0, 0)), (38, .iconst 0, 39, (0, 0, 0, 0, 0, 0)), (39, .ireturn, 40, (0, 0, 0, 0, 0, 0))]
theorem okX8_isBelow : zv_ok 3 cX8_isBelow RX8 zt vwCl tbX8_isBelow = true := by decide +kernel
theorem dzX8_isBelow_5 : decode cX8_isBelow 5 = .ok (.invokevirtual 69, 3) := by decide +kernel
theorem dzX8_isBelow_16 : decode cX8_isBelow 16 = .ok (.invokevirtual 69, 3) := by decide +kernel
theorem dzX8_isBelow_28 : decode cX8_isBelow 28 = .ok (.invokevirtual 73, 3) := by decide +kernel
theorem dzX8_isBelow_39 : decode cX8_isBelow 39 = .ok (.ireturn, 1) := by decide +kernel
set_option maxRecDepth 100000 in
theorem inX8_isBelow : Jvm.Cond.code yX8_isBelow cX8_isBelow 3 ((some .boolean)) ∈ zt := List.mem_filter.mpr ⟨List.mem_append_right _ (List.mem_of_getElem? (i := 276) rfl), rfl⟩
def tbX8_covers : List zv_I := [(0, .aload_n 0, 1, (0, 0, 0, 0, 0, 0)), (1, .getfield 10, 4, (0, 8, 0, 0, 0, 0)), (4, .iload_n 1, 5, (0, 0, 0, 0, 0, 0)), (5, .invokevirtual 69, 8, (0, 0, 0, 0, 0, 0)), (8, .ifCond .eq 14, 11, (22, 0, 0, 0, 0, 0)), (11, .aload_n 0, 12, (0, 0, 0, 0, 0, 0)), (12, .getfield 10, 15, (0, 8, 0, 0, 0, 0)), (15, .iload_n 1, 16, (0, 0, 0, 0, 0, 0)), (16, .invokevirtual 85, 19, (0, 0, 0, 0, 0, 0)), (19, .goto 4, 22, (23, 0, 0, 0, 0, 0)), (22, .iconst (-1), 23, (0, 0, 0, 0, (-1), 0)), (23, .ireturn, 24, (0, 0, 0, 0, 0, 0))]
theorem okX8_covers : zv_ok 2 cX8_covers RX8 zt vwCl tbX8_covers = true := by decide +kernel
theorem dzX8_covers_5 : decode cX8_covers 5 = .ok (.invokevirtual 69, 3) := by decide +kernel
theorem dzX8_covers_16 : decode cX8_covers 16 = .ok (.invokevirtual 85, 3) := by decide +kernel
theorem dzX8_covers_23 : decode cX8_covers 23 = .ok (.ireturn, 1) := by decide +kernel
set_option maxRecDepth 100000 in
theorem inX8_covers : Jvm.Cond.code yX8_covers cX8_covers 2 ((some .int)) ∈ zt := List.mem_filter.mpr ⟨List.mem_append_right _ (List.mem_of_getElem? (i := 280) rfl), rfl⟩
def tbX8_count : List zv_I := [(0, .iload_n 1, 1, (0, 0, 0, 0, 0, 0)), (1, .tableswitch 90 0 5 #[39, 47, 55, 63, 74, 82], 40, (0, 0, 0, 0, 0, 0)), (40, .aload_n 0, 41, (0, 0, 0, 0, 0, 0)), (41, .getfield 10, 44, (0, 8, 0, 0, 0, 0)), (44, .getfield 88, 47, (1, 4, 2, 0, 0, 0)), (47, .ireturn, 48, (0, 0, 0, 0, 0, 0)), (48, .aload_n 0, 49, (0, 0, 0, 0, 0, 0)), (49, .getfield 10, 52, (0, 8, 0, 0, 0, 0)), (52, .invokevirtual 92, 55, (0, 0, 0, 0, 0, 0)), (55, .ireturn, 56, (0, 0, 0, 0, 0, 0)), (56, .aload_n 0, 57, (0, 0, 0, 0, 0, 0)), (57, .getfield 24, 60, (0, 8, 1, 0, 0, 0)), (60, .invokevirtual 96, 63, (0, 0, 0, 0, 0, 0)), (63, .ireturn, 64, (0, 0, 0, 0, 0, 0)), (64, .aload_n 0, 65, (0, 0, 0, 0, 0, 0)), (65, .getfield 33, 68, (0, 8, 2, 0, 0, 0)), (68, .invokevirtual 99, 71, (0, 0, 0, 0, 0, 0)), (71, .invokestatic 102, 74, (0, 0, 0, 0, 0, 0)), (74, .ireturn, 75, (0, 0, 0, 0, 0, 0)), (75, .aload_n 0, 76, (0, 0, 0, 0, 0, 0)), (76, .getfield 47, 79, (0, 8, 4, 0, 0, 0)), (79, .invokevirtual 107, 82, (0, 0, 0, 0, 0, 0)), (82, .ireturn, 83, (0, 0, 0, 0, 0, 0)), (83, .aload_n 0, 84, (0, 0, 0, 0, 0, 0)), (84, .getfield 54, 87, (0, 8, 5, 0, 0, 0)), (87, .invokevirtual 110, 90, (0, 0, 0, 0, 0, 0)), (90, .ireturn, 91, (0, 0, 0, 0, 0, 0)), (91, .iconst (-1), 92, (0, 0, 0, 0, (-1), 0)), (92, .ireturn, 93, (0, 0, 0, 0, 0, 0))]
theorem okX8_count : zv_ok 2 cX8_count RX8 zt vwCl tbX8_count = true := by decide +kernel
theorem dzX8_count_1 : decode cX8_count 1 = .ok (.tableswitch 90 0 5 #[39, 47, 55, 63, 74, 82], 39) := by decide +kernel
theorem dzX8_count_47 : decode cX8_count 47 = .ok (.ireturn, 1) := by decide +kernel
theorem dzX8_count_52 : decode cX8_count 52 = .ok (.invokevirtual 92, 3) := by decide +kernel
theorem dzX8_count_55 : decode cX8_count 55 = .ok (.ireturn, 1) := by decide +kernel
theorem dzX8_count_60 : decode cX8_count 60 = .ok (.invokevirtual 96, 3) := by decide +kernel
theorem dzX8_count_63 : decode cX8_count 63 = .ok (.ireturn, 1) := by decide +kernel
theorem dzX8_count_68 : decode cX8_count 68 = .ok (.invokevirtual 99, 3) := by decide +kernel
theorem dzX8_count_71 : decode cX8_count 71 = .ok (.invokestatic 102, 3) := by decide +kernel
theorem dzX8_count_74 : decode cX8_count 74 = .ok (.ireturn, 1) := by decide +kernel
theorem dzX8_count_79 : decode cX8_count 79 = .ok (.invokevirtual 107, 3) := by decide +kernel
theorem dzX8_count_82 : decode cX8_count 82 = .ok (.ireturn, 1) := by decide +kernel
theorem dzX8_count_87 : decode cX8_count 87 = .ok (.invokevirtual 110, 3) := by decide +kernel
theorem dzX8_count_90 : decode cX8_count 90 = .ok (.ireturn, 1) := by decide +kernel
theorem dzX8_count_92 : decode cX8_count 92 = .ok (.ireturn, 1) := by decide +kernel
set_option maxRecDepth 100000 in
theorem inX8_count : Jvm.Cond.code yX8_count cX8_count 2 ((some .int)) ∈ zt := List.mem_filter.mpr ⟨List.mem_append_right _ (List.mem_of_getElem? (i := 289) rfl), rfl⟩
def tbX8_chain : List zv_I := [(0, .aload_n 0, 1, (0, 0, 0, 0, 0, 0)), (1, .getfield 24, 4, (0, 8, 1, 0, 0, 0)), (4, .iload_n 1, 5, (0, 0, 0, 0, 0, 0)), (5, .invokevirtual 111, 8, (0, 0, 0, 0, 0, 0)), (8, .ireturn, 9, (0, 0, 0, 0, 0, 0))]
theorem okX8_chain : zv_ok 2 cX8_chain RX8 zt vwCl tbX8_chain = true := by decide +kernel
theorem dzX8_chain_5 : decode cX8_chain 5 = .ok (.invokevirtual 111, 3) := by decide +kernel
theorem dzX8_chain_8 : decode cX8_chain 8 = .ok (.ireturn, 1) := by decide +kernel
set_option maxRecDepth 100000 in
theorem inX8_chain : Jvm.Cond.code yX8_chain cX8_chain 2 ((some .int)) ∈ zt := List.mem_filter.mpr ⟨List.mem_append_right _ (List.mem_of_getElem? (i := 415) rfl), rfl⟩
def tbX8_apart : List zv_I := [(0, .aload_n 0, 1, (0, 0, 0, 0, 0, 0)), (1, .getfield 33, 4, (0, 8, 2, 0, 0, 0)), (4, .invokevirtual 99, 7, (0, 0, 0, 0, 0, 0)), (7, .ireturn, 8, (0, 0, 0, 0, 0, 0))]
theorem okX8_apart : zv_ok 1 cX8_apart RX8 zt vwCl tbX8_apart = true := by decide +kernel
theorem dzX8_apart_4 : decode cX8_apart 4 = .ok (.invokevirtual 99, 3) := by decide +kernel
theorem dzX8_apart_7 : decode cX8_apart 7 = .ok (.ireturn, 1) := by decide +kernel
set_option maxRecDepth 100000 in
theorem inX8_apart : Jvm.Cond.code yX8_apart cX8_apart 1 ((some .int)) ∈ zt := List.mem_filter.mpr ⟨List.mem_append_right _ (List.mem_of_getElem? (i := 423) rfl), rfl⟩
def tbX8_next : List zv_I := [(0, .aload_n 0, 1, (0, 0, 0, 0, 0, 0)), (1, .getfield 10, 4, (0, 8, 0, 0, 0, 0)), (4, .iload_n 1, 5, (0, 0, 0, 0, 0, 0)), (5, .invokevirtual 69, 8, (0, 0, 0, 0, 0, 0)), (8, .ifCond .eq 14, 11, (22, 0, 0, 0, 0, 0)), (11, .aload_n 0, 12, (0, 0, 0, 0, 0, 0)), (12, .getfield 40, 15, (0, 8, 3, 0, 0, 0)), (15, .iload_n 1, 16, (0, 0, 0, 0, 0, 0)), (16, .invokevirtual 114, 19, (0, 0, 0, 0, 0, 0)), (19, .goto 4, 22, (23, 0, 0, 0, 0, 0)), (22, .iconst (-1), 23, (0, 0, 0, 0, (-1), 0)), (23, .ireturn, 24, (0, 0, 0, 0, 0, 0))]
theorem okX8_next : zv_ok 2 cX8_next RX8 zt vwCl tbX8_next = true := by decide +kernel
theorem dzX8_next_5 : decode cX8_next 5 = .ok (.invokevirtual 69, 3) := by decide +kernel
theorem dzX8_next_16 : decode cX8_next 16 = .ok (.invokevirtual 114, 3) := by decide +kernel
theorem dzX8_next_23 : decode cX8_next 23 = .ok (.ireturn, 1) := by decide +kernel
set_option maxRecDepth 100000 in
theorem inX8_next : Jvm.Cond.code yX8_next cX8_next 2 ((some .int)) ∈ zt := List.mem_filter.mpr ⟨List.mem_append_right _ (List.mem_of_getElem? (i := 427) rfl), rfl⟩
def tbX8_rows : List zv_I := [(0, .aload_n 0, 1, (0, 0, 0, 0, 0, 0)), (1, .getfield 47, 4, (0, 8, 4, 0, 0, 0)), (4, .invokevirtual 117, 7, (0, 0, 0, 0, 0, 0)), (7, .lreturn, 8, (0, 0, 0, 0, 0, 0))]
theorem okX8_rows : zv_ok 1 cX8_rows RX8 zt vwCl tbX8_rows = true := by decide +kernel
theorem dzX8_rows_4 : decode cX8_rows 4 = .ok (.invokevirtual 117, 3) := by decide +kernel
theorem dzX8_rows_7 : decode cX8_rows 7 = .ok (.lreturn, 1) := by decide +kernel
set_option maxRecDepth 100000 in
theorem inX8_rows : Jvm.Cond.code yX8_rows cX8_rows 1 ((some .long)) ∈ zt := List.mem_filter.mpr ⟨List.mem_append_right _ (List.mem_of_getElem? (i := 445) rfl), rfl⟩
def tbX8_before : List zv_I := [(0, .aload_n 0, 1, (0, 0, 0, 0, 0, 0)), (1, .getfield 10, 4, (0, 8, 0, 0, 0, 0)), (4, .iload_n 1, 5, (0, 0, 0, 0, 0, 0)), (5, .invokevirtual 69, 8, (0, 0, 0, 0, 0, 0)), (8, .ifCond .eq 19, 11, (27, 0, 0, 0, 0, 0)), (11, .aload_n 0, 12, (0, 0, 0, 0, 0, 0)), (12, .getfield 10, 15, (0, 8, 0, 0, 0, 0)), (15, .iload_n 2, 16, (0, 0, 0, 0, 0, 0)), (16, .invokevirtual 69, 19, (0, 0, 0, 0, 0, 0)), (19, .ifCond .eq 8, 22, (27, 0, 0, 0, 0, 0)), (22, .iload_n 1, 23, (0, 0, 0, 0, 0, 0)), (23, .iload_n 2, 24, (0, 0, 0, 0, 0, 0)), (24, .if_icmp .ne 7, 27, (31, 0, 0, 0, 0, 0)), (27, .ldc2_w 121, 30, (0, 0, 0, 0, 0, (-1))), (30, .lreturn, 31, (0, 0, 0, 0, 0, 0)), (31, .aload_n 0, 32, (0, 0, 0, 0, 0, 0)), (32, .getfield 47, 35, (0, 8, 4, 0, 0, 0)), (35, .iload_n 1, 36, (0, 0, 0, 0, 0, 0)), (36, .iload_n 2, 37, (0, 0, 0, 0, 0, 0)), (37, .invokevirtual 123, 40, (0, 0, 0, 0, 0, 0)), (40, .lreturn, 41, (0, 0, 0, 0, 0, 0))]
theorem okX8_before : zv_ok 3 cX8_before RX8 zt vwCl tbX8_before = true := by decide +kernel
theorem dzX8_before_5 : decode cX8_before 5 = .ok (.invokevirtual 69, 3) := by decide +kernel
theorem dzX8_before_16 : decode cX8_before 16 = .ok (.invokevirtual 69, 3) := by decide +kernel
theorem dzX8_before_30 : decode cX8_before 30 = .ok (.lreturn, 1) := by decide +kernel
theorem dzX8_before_37 : decode cX8_before 37 = .ok (.invokevirtual 123, 3) := by decide +kernel
theorem dzX8_before_40 : decode cX8_before 40 = .ok (.lreturn, 1) := by decide +kernel
set_option maxRecDepth 100000 in
theorem inX8_before : Jvm.Cond.code yX8_before cX8_before 3 ((some .long)) ∈ zt := List.mem_filter.mpr ⟨List.mem_append_right _ (List.mem_of_getElem? (i := 453) rfl), rfl⟩
def tbX8_places : List zv_I := [(0, .aload_n 0, 1, (0, 0, 0, 0, 0, 0)), (1, .getfield 10, 4, (0, 8, 0, 0, 0, 0)), (4, .iload_n 1, 5, (0, 0, 0, 0, 0, 0)), (5, .invokevirtual 69, 8, (0, 0, 0, 0, 0, 0)), (8, .ifCond .eq 18, 11, (26, 0, 0, 0, 0, 0)), (11, .iload_n 2, 12, (0, 0, 0, 0, 0, 0)), (12, .ifCond .lt 14, 15, (26, 0, 0, 0, 0, 0)), (15, .iload_n 2, 16, (0, 0, 0, 0, 0, 0)), (16, .aload_n 0, 17, (0, 0, 0, 0, 0, 0)), (17, .getfield 10, 20, (0, 8, 0, 0, 0, 0)), (20, .getfield 88, 23, (1, 4, 2, 0, 0, 0)), (23, .if_icmp .lt 7, 26, (30, 0, 0, 0, 0, 0)), (26, .ldc2_w 121, 29, (0, 0, 0, 0, 0, (-1))), (29, .lreturn, 30, (0, 0, 0, 0, 0, 0)), (30, .aload_n 0, 31, (0, 0, 0, 0, 0, 0)), (31, .getfield 47, 34, (0, 8, 4, 0, 0, 0)), (34, .iload_n 1, 35, (0, 0, 0, 0, 0, 0)), (35, .iload_n 2, 36, (0, 0, 0, 0, 0, 0)), (36, .invokevirtual 127, 39, (0, 0, 0, 0, 0, 0)), (39, .lreturn, 40, (0, 0, 0, 0, 0, 0))]
theorem okX8_places : zv_ok 3 cX8_places RX8 zt vwCl tbX8_places = true := by decide +kernel
theorem dzX8_places_5 : decode cX8_places 5 = .ok (.invokevirtual 69, 3) := by decide +kernel
theorem dzX8_places_29 : decode cX8_places 29 = .ok (.lreturn, 1) := by decide +kernel
theorem dzX8_places_36 : decode cX8_places 36 = .ok (.invokevirtual 127, 3) := by decide +kernel
theorem dzX8_places_39 : decode cX8_places 39 = .ok (.lreturn, 1) := by decide +kernel
set_option maxRecDepth 100000 in
theorem inX8_places : Jvm.Cond.code yX8_places cX8_places 3 ((some .long)) ∈ zt := List.mem_filter.mpr ⟨List.mem_append_right _ (List.mem_of_getElem? (i := 486) rfl), rfl⟩
def tbX8_row : List zv_I := [(0, .aload_n 0, 1, (0, 0, 0, 0, 0, 0)), (1, .getfield 47, 4, (0, 8, 4, 0, 0, 0)), (4, .lload_n 1, 5, (0, 0, 0, 0, 0, 0)), (5, .invokevirtual 130, 8, (0, 0, 0, 0, 0, 0)), (8, .lreturn, 9, (0, 0, 0, 0, 0, 0))]
theorem okX8_row : zv_ok 3 cX8_row RX8 zt vwCl tbX8_row = true := by decide +kernel
theorem dzX8_row_5 : decode cX8_row 5 = .ok (.invokevirtual 130, 3) := by decide +kernel
theorem dzX8_row_8 : decode cX8_row 8 = .ok (.lreturn, 1) := by decide +kernel
set_option maxRecDepth 100000 in
theorem inX8_row : Jvm.Cond.code yX8_row cX8_row 3 ((some .long)) ∈ zt := List.mem_filter.mpr ⟨List.mem_append_right _ (List.mem_of_getElem? (i := 495) rfl), rfl⟩
def tbX8_rank : List zv_I := [(0, .aload_n 0, 1, (0, 0, 0, 0, 0, 0)), (1, .getfield 47, 4, (0, 8, 4, 0, 0, 0)), (4, .lload_n 1, 5, (0, 0, 0, 0, 0, 0)), (5, .invokevirtual 134, 8, (0, 0, 0, 0, 0, 0)), (8, .lreturn, 9, (0, 0, 0, 0, 0, 0))]
theorem okX8_rank : zv_ok 3 cX8_rank RX8 zt vwCl tbX8_rank = true := by decide +kernel
theorem dzX8_rank_5 : decode cX8_rank 5 = .ok (.invokevirtual 134, 3) := by decide +kernel
theorem dzX8_rank_8 : decode cX8_rank 8 = .ok (.lreturn, 1) := by decide +kernel
set_option maxRecDepth 100000 in
theorem inX8_rank : Jvm.Cond.code yX8_rank cX8_rank 3 ((some .long)) ∈ zt := List.mem_filter.mpr ⟨List.mem_append_right _ (List.mem_of_getElem? (i := 504) rfl), rfl⟩
def tbX8_cut : List zv_I := [(0, .aload_n 0, 1, (0, 0, 0, 0, 0, 0)), (1, .getfield 54, 4, (0, 8, 5, 0, 0, 0)), (4, .iload_n 1, 5, (0, 0, 0, 0, 0, 0)), (5, .invokevirtual 137, 8, (0, 0, 0, 0, 0, 0)), (8, .ifCond .eq 14, 11, (22, 0, 0, 0, 0, 0)), (11, .aload_n 0, 12, (0, 0, 0, 0, 0, 0)), (12, .getfield 54, 15, (0, 8, 5, 0, 0, 0)), (15, .iload_n 1, 16, (0, 0, 0, 0, 0, 0)), (16, .invokevirtual 138, 19, (0, 0, 0, 0, 0, 0)), (19, .goto 4, 22, (23, 0, 0, 0, 0, 0)), (22, .iconst (-1), 23, (0, 0, 0, 0, (-1), 0)), (23, .ireturn, 24, (0, 0, 0, 0, 0, 0))]
theorem okX8_cut : zv_ok 2 cX8_cut RX8 zt vwCl tbX8_cut = true := by decide +kernel
theorem dzX8_cut_5 : decode cX8_cut 5 = .ok (.invokevirtual 137, 3) := by decide +kernel
theorem dzX8_cut_16 : decode cX8_cut 16 = .ok (.invokevirtual 138, 3) := by decide +kernel
theorem dzX8_cut_23 : decode cX8_cut 23 = .ok (.ireturn, 1) := by decide +kernel
set_option maxRecDepth 100000 in
theorem inX8_cut : Jvm.Cond.code yX8_cut cX8_cut 2 ((some .int)) ∈ zt := List.mem_filter.mpr ⟨List.mem_append_right _ (List.mem_of_getElem? (i := 513) rfl), rfl⟩
def tbX8_least : List zv_I := [(0, .iload_n 1, 1, (0, 0, 0, 0, 0, 0)), (1, .aload_n 0, 2, (0, 0, 0, 0, 0, 0)), (2, .getfield 10, 5, (0, 8, 0, 0, 0, 0)), (5, .invokevirtual 141, 8, (0, 0, 0, 0, 0, 0)), (8, .iconst (-1), 9, (0, 0, 0, 0, (-1), 0)), (9, .ixor, 10, (0, 0, 0, 0, 0, 0)), (10, .iand, 11, (0, 0, 0, 0, 0, 0)), (11, .ifCond .eq 5, 14, (16, 0, 0, 0, 0, 0)), (14, .iconst (-1), 15, (0, 0, 0, 0, (-1), 0)), (15, .ireturn, 16, (0, 0, 0, 0, 0, 0)), (16, .aload_n 0, 17, (0, 0, 0, 0, 0, 0)), (17, .getfield 54, 20, (0, 8, 5, 0, 0, 0)), (20, .iload_n 1, 21, (0, 0, 0, 0, 0, 0)), (21, .invokevirtual 144, 24, (0, 0, 0, 0, 0, 0)), (24, .ireturn, 25, (0, 0, 0, 0, 0, 0))]
theorem okX8_least : zv_ok 2 cX8_least RX8 zt vwCl tbX8_least = true := by decide +kernel
theorem dzX8_least_5 : decode cX8_least 5 = .ok (.invokevirtual 141, 3) := by decide +kernel
theorem dzX8_least_15 : decode cX8_least 15 = .ok (.ireturn, 1) := by decide +kernel
theorem dzX8_least_21 : decode cX8_least 21 = .ok (.invokevirtual 144, 3) := by decide +kernel
theorem dzX8_least_24 : decode cX8_least 24 = .ok (.ireturn, 1) := by decide +kernel
set_option maxRecDepth 100000 in
theorem inX8_least : Jvm.Cond.code yX8_least cX8_least 2 ((some .int)) ∈ zt := List.mem_filter.mpr ⟨List.mem_append_right _ (List.mem_of_getElem? (i := 525) rfl), rfl⟩
def tbX8_joined : List zv_I := [(0, .aload_n 0, 1, (0, 0, 0, 0, 0, 0)), (1, .getfield 54, 4, (0, 8, 5, 0, 0, 0)), (4, .iload_n 1, 5, (0, 0, 0, 0, 0, 0)), (5, .invokevirtual 137, 8, (0, 0, 0, 0, 0, 0)), (8, .ifCond .eq 14, 11, (22, 0, 0, 0, 0, 0)), (11, .aload_n 0, 12, (0, 0, 0, 0, 0, 0)), (12, .getfield 54, 15, (0, 8, 5, 0, 0, 0)), (15, .iload_n 2, 16, (0, 0, 0, 0, 0, 0)), (16, .invokevirtual 137, 19, (0, 0, 0, 0, 0, 0)), (19, .ifCond .ne 5, 22, (24, 0, 0, 0, 0, 0)), (22, .iconst (-1), 23, (0, 0, 0, 0, (-1), 0)), (23, .ireturn, 24, (0, 0, 0, 0, 0, 0)), (24, .aload_n 0, 25, (0, 0, 0, 0, 0, 0)), (25, .getfield 54, 28, (0, 8, 5, 0, 0, 0)), (28, .iload_n 1, 29, (0, 0, 0, 0, 0, 0)), (29, .invokevirtual 138, 32, (0, 0, 0, 0, 0, 0)), (32, .istore 4, 34, (0, 0, 0, 0, 0, 0)), (34, .aload_n 0, 35, (0, 0, 0, 0, 0, 0)), (35, .getfield 54, 38, (0, 8, 5, 0, 0, 0)), (38, .iload_n 2, 39, (0, 0, 0, 0, 0, 0)), (39, .invokevirtual 138, 42, (0, 0, 0, 0, 0, 0)), (42, .istore 5, 44, (0, 0, 0, 0, 0, 0)), (44, .aload_n 0, 45, (0, 0, 0, 0, 0, 0)), (45, .getfield 54, 48, (0, 8, 5, 0, 0, 0)), (48, .iload_n 3, 49, (0, 0, 0, 0, 0, 0)), (49, .ifCond .eq 11, 52, (60, 0, 0, 0, 0, 0)), (52, .iload 4, 54, (0, 0, 0, 0, 0, 0)), (54, .iload 5, 56, (0, 0, 0, 0, 0, 0)), (56, .iand, 57, (0, 0, 0, 0, 0, 0)), (57, .goto 8, 60, (65, 0, 0, 0, 0, 0)), (60, .iload 4, 62, (0, 0, 0, 0, 0, 0)), (62, .iload 5, 64, (0, 0, 0, 0, 0, 0)), (64, .ior, 65, (0, 0, 0, 0, 0, 0)), (65, .invokevirtual 144, 68, (0, 0, 0, 0, 0, 0)), (68, .ireturn, 69, (0, 0, 0, 0, 0, 0))]
theorem okX8_joined : zv_ok 6 cX8_joined RX8 zt vwCl tbX8_joined = true := by decide +kernel
theorem dzX8_joined_5 : decode cX8_joined 5 = .ok (.invokevirtual 137, 3) := by decide +kernel
theorem dzX8_joined_16 : decode cX8_joined 16 = .ok (.invokevirtual 137, 3) := by decide +kernel
theorem dzX8_joined_23 : decode cX8_joined 23 = .ok (.ireturn, 1) := by decide +kernel
theorem dzX8_joined_29 : decode cX8_joined 29 = .ok (.invokevirtual 138, 3) := by decide +kernel
theorem dzX8_joined_39 : decode cX8_joined 39 = .ok (.invokevirtual 138, 3) := by decide +kernel
theorem dzX8_joined_65 : decode cX8_joined 65 = .ok (.invokevirtual 144, 3) := by decide +kernel
theorem dzX8_joined_68 : decode cX8_joined 68 = .ok (.ireturn, 1) := by decide +kernel
set_option maxRecDepth 100000 in
theorem inX8_joined : Jvm.Cond.code yX8_joined cX8_joined 6 ((some .int)) ∈ zt := List.mem_filter.mpr ⟨List.mem_append_right _ (List.mem_of_getElem? (i := 534) rfl), rfl⟩
def tbX8_mu : List zv_I := [(0, .aload_n 0, 1, (0, 0, 0, 0, 0, 0)), (1, .getfield 10, 4, (0, 8, 0, 0, 0, 0)), (4, .iload_n 1, 5, (0, 0, 0, 0, 0, 0)), (5, .invokevirtual 69, 8, (0, 0, 0, 0, 0, 0)), (8, .ifCond .eq 14, 11, (22, 0, 0, 0, 0, 0)), (11, .aload_n 0, 12, (0, 0, 0, 0, 0, 0)), (12, .getfield 10, 15, (0, 8, 0, 0, 0, 0)), (15, .iload_n 2, 16, (0, 0, 0, 0, 0, 0)), (16, .invokevirtual 69, 19, (0, 0, 0, 0, 0, 0)), (19, .ifCond .ne 5, 22, (24, 0, 0, 0, 0, 0)), (22, .iconst 0, 23, (0, 0, 0, 0, 0, 0)), (23, .ireturn, 24, (0, 0, 0, 0, 0, 0)), (24, .aload_n 0, 25, (0, 0, 0, 0, 0, 0)), (25, .getfield 10, 28, (0, 8, 0, 0, 0, 0)), (28, .iload_n 1, 29, (0, 0, 0, 0, 0, 0)), (29, .invokevirtual 147, 32, (0, 0, 0, 0, 0, 0)), (32, .aload_n 0, 33, (0, 0, 0, 0, 0, 0)), (33, .getfield 10, 36, (0, 8, 0, 0, 0, 0)), (36, .iload_n 2, 37, (0, 0, 0, 0, 0, 0)), (37, .invokevirtual 150, 40, (0, 0, 0, 0, 0, 0)), (40, .iand, 41, (0, 0, 0, 0, 0, 0)), (41, .istore_n 3, 42, (0, 0, 0, 0, 0, 0)), (42, .aload_n 0, 43, (0, 0, 0, 0, 0, 0)), (43, .getfield 61, 46, (0, 8, 6, 0, 0, 0)), (46, .invokevirtual 153, 49, (0, 0, 0, 0, 0, 0)), (49, .iconst 0, 50, (0, 0, 0, 0, 0, 0)), (50, .istore 4, 52, (0, 0, 0, 0, 0, 0)), (52, .iload 4, 54, (0, 0, 0, 0, 0, 0)), (54, .aload_n 0, 55, (0, 0, 0, 0, 0, 0)), (55, .getfield 10, 58, (0, 8, 0, 0, 0, 0)), (58, .getfield 88, 61, (1, 4, 2, 0, 0, 0)), (61, .if_icmp .ge 34, 64, (95, 0, 0, 0, 0, 0)), (64, .iload_n 3, 65, (0, 0, 0, 0, 0, 0)), (65, .iconst 1, 66, (0, 0, 0, 0, 1, 0)), (66, .iload 4, 68, (0, 0, 0, 0, 0, 0)), (68, .ishl, 69, (0, 0, 0, 0, 0, 0)), (69, .iand, 70, (0, 0, 0, 0, 0, 0)), (70, .ifCond .eq 19, 73, (89, 0, 0, 0, 0, 0)), (73, .aload_n 0, 74, (0, 0, 0, 0, 0, 0)), (74, .getfield 61, 77, (0, 8, 6, 0, 0, 0)), (77, .aload_n 0, 78, (0, 0, 0, 0, 0, 0)), (78, .getfield 10, 81, (0, 8, 0, 0, 0, 0)), (81, .iload 4, 83, (0, 0, 0, 0, 0, 0)), (83, .invokevirtual 150, 86, (0, 0, 0, 0, 0, 0)), (86, .invokevirtual 156, 89, (0, 0, 0, 0, 0, 0)), (89, .iinc 4 1, 92, (0, 0, 0, 0, 1, 0)), (92, .goto (-40), 95, (52, 0, 0, 0, 0, 0)), (95, .aload_n 0, 96, (0, 0, 0, 0, 0, 0)), (96, .getfield 61, 99, (0, 8, 6, 0, 0, 0)), (99, .invokevirtual 159, 102, (0, 0, 0, 0, 0, 0)), (102, .ireturn, 103, (0, 0, 0, 0, 0, 0))]
theorem okX8_mu : zv_ok 5 cX8_mu RX8 zt vwCl tbX8_mu = true := by decide +kernel
theorem dzX8_mu_5 : decode cX8_mu 5 = .ok (.invokevirtual 69, 3) := by decide +kernel
theorem dzX8_mu_16 : decode cX8_mu 16 = .ok (.invokevirtual 69, 3) := by decide +kernel
theorem dzX8_mu_23 : decode cX8_mu 23 = .ok (.ireturn, 1) := by decide +kernel
theorem dzX8_mu_29 : decode cX8_mu 29 = .ok (.invokevirtual 147, 3) := by decide +kernel
theorem dzX8_mu_37 : decode cX8_mu 37 = .ok (.invokevirtual 150, 3) := by decide +kernel
theorem dzX8_mu_46 : decode cX8_mu 46 = .ok (.invokevirtual 153, 3) := by decide +kernel
theorem dzX8_mu_83 : decode cX8_mu 83 = .ok (.invokevirtual 150, 3) := by decide +kernel
theorem dzX8_mu_86 : decode cX8_mu 86 = .ok (.invokevirtual 156, 3) := by decide +kernel
theorem dzX8_mu_99 : decode cX8_mu 99 = .ok (.invokevirtual 159, 3) := by decide +kernel
theorem dzX8_mu_102 : decode cX8_mu 102 = .ok (.ireturn, 1) := by decide +kernel
set_option maxRecDepth 100000 in
theorem inX8_mu : Jvm.Cond.code yX8_mu cX8_mu 5 ((some .int)) ∈ zt := List.mem_filter.mpr ⟨List.mem_append_right _ (List.mem_of_getElem? (i := 538) rfl), rfl⟩
def tbX8_muOfCuts : List zv_I := [(0, .aload_n 0, 1, (0, 0, 0, 0, 0, 0)), (1, .getfield 54, 4, (0, 8, 5, 0, 0, 0)), (4, .iload_n 1, 5, (0, 0, 0, 0, 0, 0)), (5, .invokevirtual 137, 8, (0, 0, 0, 0, 0, 0)), (8, .ifCond .eq 14, 11, (22, 0, 0, 0, 0, 0)), (11, .aload_n 0, 12, (0, 0, 0, 0, 0, 0)), (12, .getfield 54, 15, (0, 8, 5, 0, 0, 0)), (15, .iload_n 2, 16, (0, 0, 0, 0, 0, 0)), (16, .invokevirtual 137, 19, (0, 0, 0, 0, 0, 0)), (19, .ifCond .ne 5, 22, (24, 0, 0, 0, 0, 0)), (22, .iconst 0, 23, (0, 0, 0, 0, 0, 0)), (23, .ireturn, 24, (0, 0, 0, 0, 0, 0)), (24, .aload_n 0, 25, (0, 0, 0, 0, 0, 0)), (25, .getfield 54, 28, (0, 8, 5, 0, 0, 0)), (28, .iload_n 1, 29, (0, 0, 0, 0, 0, 0)), (29, .invokevirtual 138, 32, (0, 0, 0, 0, 0, 0)), (32, .istore_n 3, 33, (0, 0, 0, 0, 0, 0)), (33, .aload_n 0, 34, (0, 0, 0, 0, 0, 0)), (34, .getfield 54, 37, (0, 8, 5, 0, 0, 0)), (37, .iload_n 2, 38, (0, 0, 0, 0, 0, 0)), (38, .invokevirtual 138, 41, (0, 0, 0, 0, 0, 0)), (41, .istore 4, 43, (0, 0, 0, 0, 0, 0)), (43, .aload_n 0, 44, (0, 0, 0, 0, 0, 0)), (44, .getfield 61, 47, (0, 8, 6, 0, 0, 0)), (47, .invokevirtual 153, 50, (0, 0, 0, 0, 0, 0)), (50, .iload_n 1, 51, (0, 0, 0, 0, 0, 0)), (51, .istore 5, 53, (0, 0, 0, 0, 0, 0)), (53, .iload 5, 55, (0, 0, 0, 0, 0, 0)), (55, .iload_n 2, 56, (0, 0, 0, 0, 0, 0)), (56, .if_icmp .gt 48, 59, (104, 0, 0, 0, 0, 0)), (59, .aload_n 0, 60, (0, 0, 0, 0, 0, 0)), (60, .getfield 54, 63, (0, 8, 5, 0, 0, 0)), (63, .iload 5, 65, (0, 0, 0, 0, 0, 0)), (65, .invokevirtual 138, 68, (0, 0, 0, 0, 0, 0)), (68, .istore 6, 70, (0, 0, 0, 0, 0, 0)), (70, .iload_n 3, 71, (0, 0, 0, 0, 0, 0)), (71, .iload 6, 73, (0, 0, 0, 0, 0, 0)), (73, .invokestatic 162, 76, (0, 0, 0, 0, 0, 0)), (76, .ifCond .eq 22, 79, (98, 0, 0, 0, 0, 0)), (79, .iload 6, 81, (0, 0, 0, 0, 0, 0)), (81, .iload 4, 83, (0, 0, 0, 0, 0, 0)), (83, .invokestatic 162, 86, (0, 0, 0, 0, 0, 0)), (86, .ifCond .eq 12, 89, (98, 0, 0, 0, 0, 0)), (89, .aload_n 0, 90, (0, 0, 0, 0, 0, 0)), (90, .getfield 61, 93, (0, 8, 6, 0, 0, 0)), (93, .iload 6, 95, (0, 0, 0, 0, 0, 0)), (95, .invokevirtual 156, 98, (0, 0, 0, 0, 0, 0)), (98, .iinc 5 1, 101, (0, 0, 0, 0, 1, 0)), (101, .goto (-48), 104, (53, 0, 0, 0, 0, 0)), (104, .aload_n 0, 105, (0, 0, 0, 0, 0, 0)), (105, .getfield 61, 108, (0, 8, 6, 0, 0, 0)), (108, .invokevirtual 159, 111, (0, 0, 0, 0, 0, 0)), (111, .ireturn, 112, (0, 0, 0, 0, 0, 0))]
theorem okX8_muOfCuts : zv_ok 7 cX8_muOfCuts RX8 zt vwCl tbX8_muOfCuts = true := by decide +kernel
theorem dzX8_muOfCuts_5 : decode cX8_muOfCuts 5 = .ok (.invokevirtual 137, 3) := by decide +kernel
theorem dzX8_muOfCuts_16 : decode cX8_muOfCuts 16 = .ok (.invokevirtual 137, 3) := by decide +kernel
theorem dzX8_muOfCuts_23 : decode cX8_muOfCuts 23 = .ok (.ireturn, 1) := by decide +kernel
theorem dzX8_muOfCuts_29 : decode cX8_muOfCuts 29 = .ok (.invokevirtual 138, 3) := by decide +kernel
theorem dzX8_muOfCuts_38 : decode cX8_muOfCuts 38 = .ok (.invokevirtual 138, 3) := by decide +kernel
theorem dzX8_muOfCuts_47 : decode cX8_muOfCuts 47 = .ok (.invokevirtual 153, 3) := by decide +kernel
theorem dzX8_muOfCuts_65 : decode cX8_muOfCuts 65 = .ok (.invokevirtual 138, 3) := by decide +kernel
theorem dzX8_muOfCuts_73 : decode cX8_muOfCuts 73 = .ok (.invokestatic 162, 3) := by decide +kernel
theorem dzX8_muOfCuts_83 : decode cX8_muOfCuts 83 = .ok (.invokestatic 162, 3) := by decide +kernel
theorem dzX8_muOfCuts_95 : decode cX8_muOfCuts 95 = .ok (.invokevirtual 156, 3) := by decide +kernel
theorem dzX8_muOfCuts_108 : decode cX8_muOfCuts 108 = .ok (.invokevirtual 159, 3) := by decide +kernel
theorem dzX8_muOfCuts_111 : decode cX8_muOfCuts 111 = .ok (.ireturn, 1) := by decide +kernel
set_option maxRecDepth 100000 in
theorem inX8_muOfCuts : Jvm.Cond.code yX8_muOfCuts cX8_muOfCuts 7 ((some .int)) ∈ zt := List.mem_filter.mpr ⟨List.mem_append_right _ (List.mem_of_getElem? (i := 568) rfl), rfl⟩
