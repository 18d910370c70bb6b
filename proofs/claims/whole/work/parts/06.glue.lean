/-! CALL WORDS over zt, one list for every method -/
theorem zt_goodIn {ws : List Jvm.Cond} (h : ∀ w ∈ ws, w ∈ zt) : GoodIn zt ws := fun w hw => ⟨h w hw, good_of_word (zt_good w (h w hw))⟩
def zk_d (y : MethodName) (n : Nat) : Bool := decide (y.cls ≠ "java/lang/invoke/MethodHandle") && (decide (y.cls ≠ "java/lang/invoke/VarHandle") && decide ((parseMethodDescriptor y.desc).map (fun d => d.parameters.length) = some n))
def zk_V (own : String) (index : Nat) (y : MethodName) (n : Nat) : Bool := decide (Jvm.Cond.methodLink own index y ∈ zt) && (decide (Jvm.Cond.instanceMethod y ∈ zt) && (decide (Jvm.Cond.selects y.cls y y ∈ zt) && (decide (Jvm.Cond.initialized y.cls ∈ zt) && zk_d y n)))
def zk_S (own : String) (index : Nat) (y : MethodName) (n : Nat) : Bool := decide (Jvm.Cond.methodLink own index y ∈ zt) && (decide (Jvm.Cond.static y ∈ zt) && (decide (Jvm.Cond.initialized y.cls ∈ zt) && zk_d y n))
def zk_I (own : String) (index : Nat) (y : MethodName) (n : Nat) : Bool := decide (Jvm.Cond.methodLink own index y ∈ zt) && (decide (Jvm.Cond.instanceMethod y ∈ zt) && (decide (Jvm.Cond.initialized y.cls ∈ zt) && (decide (y.name = "<init>") && zk_d y n)))
def zk_SN (own : String) (index : Nat) (y : MethodName) (n : Nat) : Bool := decide ((own, index, y, "OrderDesk") ∈ zv_nl) && (decide (Jvm.Cond.static y ∈ zt) && (decide (Jvm.Cond.initialized y.cls ∈ zt) && zk_d y n))
def zk_IN (own : String) (index : Nat) (y : MethodName) (n : Nat) : Bool := decide ((own, index, y, "OrderDesk") ∈ zv_nl) && (decide (Jvm.Cond.instanceMethod y ∈ zt) && (decide (Jvm.Cond.initialized y.cls ∈ zt) && (decide (y.name = "<init>") && zk_d y n)))
section ZW
variable {R : Room} {own : String} {index maxL n : Nat} {y : MethodName} {bytes : ByteArray} {rt : Option FieldType} {rm : Room}
theorem zw_sub (hc : Jvm.Cond.code y bytes maxL rt ∈ zt) : ∀ w ∈ zw y bytes maxL rt, w ∈ zt := fun w h => (List.mem_cons.mp h).elim (fun e => e ▸ hc) id
theorem zw_V (hc : Jvm.Cond.code y bytes maxL rt ∈ zt) (hk : zk_V own index y n = true) (hR : rm.frames + 1 ≤ R.frames ∧ 8 + (maxL + 11) + rm.locals ≤ R.locals) (s : State) (args : Array Value) (ht : ∀ w ∈ zt, w.before args s = true) : CallW R s args own y.cls index y bytes maxL rt (zw y bytes maxL rt) rm rm.cells rm.slots n := by
  simp only [zk_V, zk_d, Bool.and_eq_true, decide_eq_true_eq] at hk
  obtain ⟨h1, h2, h3, h4, h5, h6, h7⟩ := hk
  refine cwV n ht (zt_goodIn fun w hw => ?_) rfl rfl rfl ⟨rfl, h5, h6, h7⟩ hR
  rcases List.mem_append.mp hw with h | h
  · simp only [List.mem_cons, List.not_mem_nil, or_false] at h
    rcases h with rfl | rfl | rfl | rfl
    · exact h1
    · exact h2
    · exact h3
    · exact h4
  · exact zw_sub hc w h
theorem zw_S (hc : Jvm.Cond.code y bytes maxL rt ∈ zt) (hk : zk_S own index y n = true) (hR : rm.frames + 1 ≤ R.frames ∧ 8 + (maxL + 11) + rm.locals ≤ R.locals) (s : State) (args : Array Value) (ht : ∀ w ∈ zt, w.before args s = true) : CallB R s args own index y bytes maxL rt (zw y bytes maxL rt) rm rm.cells rm.slots n ∧ (Jvm.Cond.static y).before args s = true := by
  simp only [zk_S, zk_d, Bool.and_eq_true, decide_eq_true_eq] at hk
  obtain ⟨h1, h2, h3, h5, h6, h7⟩ := hk
  exact ⟨callB_of n ht (zt_goodIn (zw_sub hc)) rfl rfl rfl (ht _ h3) (ht _ h1) ⟨h5, h6, h7⟩ hR, ht _ h2⟩
theorem zw_I (hc : Jvm.Cond.code y bytes maxL none ∈ zt) (hk : zk_I own index y n = true) (hR : rm.frames + 1 ≤ R.frames ∧ 8 + (maxL + 11) + rm.locals ≤ R.locals) (s : State) (args : Array Value) (ht : ∀ w ∈ zt, w.before args s = true) : CallB R s args own index y bytes maxL none (zw y bytes maxL none) rm rm.cells rm.slots n ∧ y.name = "<init>" ∧ (Jvm.Cond.instanceMethod y).before args s = true := by
  simp only [zk_I, zk_d, Bool.and_eq_true, decide_eq_true_eq] at hk
  obtain ⟨h1, h2, h3, h4, h5, h6, h7⟩ := hk
  exact ⟨callB_of n ht (zt_goodIn (zw_sub hc)) rfl rfl rfl (ht _ h3) (ht _ h1) ⟨h5, h6, h7⟩ hR, h4, ht _ h2⟩
theorem zw_SN (hc : Jvm.Cond.code y bytes maxL rt ∈ zt) (hk : zk_SN own index y n = true) (hR : rm.frames + 1 ≤ R.frames ∧ 8 + (maxL + 11) + rm.locals ≤ R.locals) (s : State) (args : Array Value) (ht : ∀ w ∈ zt, w.before args s = true) (hl : va_Nw (.methodLinkNest own index y "OrderDesk") s) : va_CN R s args own index y "OrderDesk" bytes maxL rt (zw y bytes maxL rt) rm rm.cells rm.slots n ∧ (Jvm.Cond.static y).before args s = true ∧ True := by
  simp only [zk_SN, zk_d, Bool.and_eq_true, decide_eq_true_eq] at hk
  obtain ⟨h1, h2, h3, h5, h6, h7⟩ := hk
  exact ⟨va_cnB n ht (zt_goodIn (zw_sub hc)) rfl rfl rfl hl (ht _ h3) ⟨h5, h6, h7⟩ hR, ht _ h2, trivial⟩
theorem zw_IN (hc : Jvm.Cond.code y bytes maxL none ∈ zt) (hk : zk_IN own index y n = true) (hR : rm.frames + 1 ≤ R.frames ∧ 8 + (maxL + 11) + rm.locals ≤ R.locals) (s : State) (args : Array Value) (ht : ∀ w ∈ zt, w.before args s = true) (hl : va_Nw (.methodLinkNest own index y "OrderDesk") s) : va_CN R s args own index y "OrderDesk" bytes maxL none (zw y bytes maxL none) rm rm.cells rm.slots n ∧ y.name = "<init>" ∧ (Jvm.Cond.instanceMethod y).before args s = true := by
  simp only [zk_IN, zk_d, Bool.and_eq_true, decide_eq_true_eq] at hk
  obtain ⟨h1, h2, h3, h4, h5, h6, h7⟩ := hk
  exact ⟨va_cnB n ht (zt_goodIn (zw_sub hc)) rfl rfl rfl hl (ht _ h3) ⟨h5, h6, h7⟩ hR, h4, ht _ h2⟩
theorem zk_SN_in (hk : zk_SN own index y n = true) : (own, index, y, "OrderDesk") ∈ zv_nl := by
  simp only [zk_SN, Bool.and_eq_true, decide_eq_true_eq] at hk
  exact hk.1
theorem zk_IN_in (hk : zk_IN own index y n = true) : (own, index, y, "OrderDesk") ∈ zv_nl := by
  simp only [zk_IN, Bool.and_eq_true, decide_eq_true_eq] at hk
  exact hk.1
end ZW
theorem kX0_23 : zk_V RX0 23 yX0_refresh 0 = true := by decide +kernel
theorem kX0_29 : zk_V RX0 29 yX0_close 1 = true := by decide +kernel
theorem kX0_38 : zk_V RX0 38 yX0_list 0 = true := by decide +kernel
theorem kX0_41 : zk_V RX0 41 yX4_all 0 = true := by decide +kernel
theorem kX0_45 : zk_V RX0 45 yX0_append 1 = true := by decide +kernel
theorem kX0_49 : zk_V RX0 49 yX0_following 1 = true := by decide +kernel
theorem kX0_52 : zk_S RX0 52 yJ7_copyOf_59c91 2 = true := by decide +kernel
theorem kX0_61 : zk_V RX0 61 yX4_upFrom 1 = true := by decide +kernel
theorem kX0_64 : zk_V RX0 64 yX4_downFrom 1 = true := by decide +kernel
theorem kX1_26 : zk_V RX1 26 yX1_refresh 0 = true := by decide +kernel
theorem kX1_37 : zk_V RX1 37 yX1_peelLayers 0 = true := by decide +kernel
theorem kX1_40 : zk_V RX1 40 yX1_climb 0 = true := by decide +kernel
theorem kX1_43 : zk_V RX1 43 yX4_all 0 = true := by decide +kernel
theorem kX1_47 : zk_V RX1 47 yX1_topsOf 1 = true := by decide +kernel
theorem kX1_57 : zk_V RX1 57 yX1_leastOf 1 = true := by decide +kernel
theorem kX2_31 : zk_V RX2 31 yX2_pairUp 2 = true := by decide +kernel
theorem kX2_35 : zk_S RX2 35 yJ6_bitCount_0f7a4 1 = true := by decide +kernel
theorem kX2_41 : zk_V RX2 41 yX2_most 2 = true := by decide +kernel
theorem kX3_22 : zk_V RX3 22 yX3_makeRoom 0 = true := by decide +kernel
theorem kX3_25 : zk_V RX3 25 yX3_sumUnder 1 = true := by decide +kernel
theorem kX3_29 : zk_SN RX3 29 yX8_isPart 2 = true := by decide +kernel
theorem kX3_33 : zk_S RX3 33 yJ7_copyOf_59c91 2 = true := by decide +kernel
theorem kX4_25 : zk_V RX4 25 yX4_downFrom 1 = true := by decide +kernel
theorem kX4_29 : zk_V RX4 29 yX4_upFrom 1 = true := by decide +kernel
theorem kX4_32 : zk_S RX4 32 yJ6_bitCount_0f7a4 1 = true := by decide +kernel
theorem kX4_37 : zk_V RX4 37 yX4_changeBy 1 = true := by decide +kernel
theorem kX4_41 : zk_V RX4 41 yX4_under 2 = true := by decide +kernel
theorem kX5_32 : zk_V RX5 32 yX5_link 0 = true := by decide +kernel
theorem kX5_35 : zk_V RX5 35 yX4_all 0 = true := by decide +kernel
theorem kX5_39 : zk_V RX5 39 yX2_most 2 = true := by decide +kernel
theorem kX5_48 : zk_V RX5 48 yX5_leastGoodLink 3 = true := by decide +kernel
theorem kX6_29 : zk_V RX6 29 yX6_refreshBeginnings 0 = true := by decide +kernel
theorem kX6_32 : zk_V RX6 32 yX4_all 0 = true := by decide +kernel
theorem kX6_41 : zk_V RX6 41 yX6_refreshEndings 0 = true := by decide +kernel
theorem kX6_44 : zk_V RX6 44 yX6_rowsWithStep 2 = true := by decide +kernel
theorem kX6_48 : zk_S RX6 48 yJ6_bitCount_0f7a4 1 = true := by decide +kernel
theorem kX6_54 : zk_V RX6 54 yX6_rowsOnFrom 2 = true := by decide +kernel
theorem kX6_62 : zk_V RX6 62 yX4_has 1 = true := by decide +kernel
theorem kX6_66 : zk_V RX6 66 yX4_canFollow 2 = true := by decide +kernel
theorem kX6_73 : zk_V RX6 73 yX6_makeRoom 1 = true := by decide +kernel
theorem kX6_77 : zk_V RX6 77 yX6_countBeginnings 0 = true := by decide +kernel
theorem kX6_80 : zk_V RX6 80 yX6_countEndings 0 = true := by decide +kernel
theorem kX6_83 : zk_S RX6 83 yJ7_fill_d0a16 2 = true := by decide +kernel
theorem kX6_89 : zk_V RX6 89 yX6_handOn 2 = true := by decide +kernel
theorem kX6_97 : zk_V RX6 97 yX6_sumOfEndings 2 = true := by decide +kernel
theorem kX7_28 : zk_V RX7 28 yX7_choose 0 = true := by decide +kernel
theorem kX7_34 : zk_V RX7 34 yX4_all 0 = true := by decide +kernel
theorem kX7_38 : zk_V RX7 38 yX2_widthOf 1 = true := by decide +kernel
theorem kX8_9 : zk_IN RX8 9 yX4_init 0 = true := by decide +kernel
theorem kX8_18 : zk_I RX8 18 yX2_init 1 = true := by decide +kernel
theorem kX8_23 : zk_I RX8 23 yX1_init 1 = true := by decide +kernel
theorem kX8_30 : zk_I RX8 30 yX7_init 2 = true := by decide +kernel
theorem kX8_39 : zk_I RX8 39 yX5_init 2 = true := by decide +kernel
theorem kX8_46 : zk_I RX8 46 yX6_init 1 = true := by decide +kernel
theorem kX8_53 : zk_I RX8 53 yX0_init 1 = true := by decide +kernel
theorem kX8_60 : zk_IN RX8 60 yX3_init 0 = true := by decide +kernel
theorem kX8_65 : zk_V RX8 65 yX4_startWith 1 = true := by decide +kernel
theorem kX8_69 : zk_V RX8 69 yX4_has 1 = true := by decide +kernel
theorem kX8_73 : zk_V RX8 73 yX4_under 2 = true := by decide +kernel
theorem kX8_77 : zk_V RX8 77 yX4_tie 2 = true := by decide +kernel
theorem kX8_81 : zk_V RX8 81 yX4_untie 1 = true := by decide +kernel
theorem kX8_85 : zk_V RX8 85 yX4_coversOf 1 = true := by decide +kernel
theorem kX8_92 : zk_V RX8 92 yX4_pairs 0 = true := by decide +kernel
theorem kX8_96 : zk_V RX8 96 yX1_length 0 = true := by decide +kernel
theorem kX8_99 : zk_V RX8 99 yX7_asSet 0 = true := by decide +kernel
theorem kX8_102 : zk_S RX8 102 yJ6_bitCount_0f7a4 1 = true := by decide +kernel
theorem kX8_107 : zk_V RX8 107 yX6_ideals 0 = true := by decide +kernel
theorem kX8_110 : zk_V RX8 110 yX0_length 0 = true := by decide +kernel
theorem kX8_111 : zk_V RX8 111 yX1_thingAt 1 = true := by decide +kernel
theorem kX8_114 : zk_V RX8 114 yX5_nextOf 1 = true := by decide +kernel
theorem kX8_117 : zk_V RX8 117 yX6_total 0 = true := by decide +kernel
theorem kX8_123 : zk_V RX8 123 yX6_rowsWithFirst 2 = true := by decide +kernel
theorem kX8_127 : zk_V RX8 127 yX6_rowsWithPlace 2 = true := by decide +kernel
theorem kX8_130 : zk_V RX8 130 yX6_rowNumbered 1 = true := by decide +kernel
theorem kX8_134 : zk_V RX8 134 yX6_numberOf 1 = true := by decide +kernel
theorem kX8_137 : zk_V RX8 137 yX0_has 1 = true := by decide +kernel
theorem kX8_138 : zk_V RX8 138 yX0_setOf 1 = true := by decide +kernel
theorem kX8_141 : zk_V RX8 141 yX4_all 0 = true := by decide +kernel
theorem kX8_144 : zk_V RX8 144 yX0_numberOfLeast 1 = true := by decide +kernel
theorem kX8_147 : zk_V RX8 147 yX4_upFrom 1 = true := by decide +kernel
theorem kX8_150 : zk_V RX8 150 yX4_downFrom 1 = true := by decide +kernel
theorem kX8_153 : zk_V RX8 153 yX3_clear 0 = true := by decide +kernel
theorem kX8_156 : zk_V RX8 156 yX3_add 1 = true := by decide +kernel
theorem kX8_159 : zk_V RX8 159 yX3_ofFirstWithLast 0 = true := by decide +kernel
theorem kX8_162 : zk_S RX8 162 yX8_isPart 2 = true := by decide +kernel
theorem kX9_42 : zk_V RX9 42 yX9_has 1 = true := by decide +kernel
theorem kX9_46 : zk_V RX9 46 yX9_is 2 = true := by decide +kernel
theorem kX9_50 : zk_V RX9 50 yX9_pairs 0 = true := by decide +kernel
theorem kX9_54 : zk_V RX9 54 yX9_close 1 = true := by decide +kernel
theorem kX9_58 : zk_S RX9 58 yX9_isIn 2 = true := by decide +kernel
theorem kX9_61 : zk_V RX9 61 yX9_all 0 = true := by decide +kernel
theorem kX9_64 : zk_S RX9 64 yX9_size 1 = true := by decide +kernel
theorem kX9_68 : zk_V RX9 68 yX9_isChain 1 = true := by decide +kernel
theorem kX9_71 : zk_V RX9 71 yX9_write 2 = true := by decide +kernel
theorem kX9_75 : zk_V RX9 75 yX9_isApart 1 = true := by decide +kernel
theorem kX9_78 : zk_V RX9 78 yX9_findChain 0 = true := by decide +kernel
theorem kX9_81 : zk_V RX9 81 yX9_apart 0 = true := by decide +kernel
theorem kX9_84 : zk_V RX9 84 yX9_isIdeal 1 = true := by decide +kernel
theorem kX9_87 : zk_V RX9 87 yX9_findCuts 0 = true := by decide +kernel
theorem kX9_93 : zk_V RX9 93 yX9_findGets 0 = true := by decide +kernel
theorem kX9_96 : zk_V RX9 96 yX9_findOrders 1 = true := by decide +kernel
theorem kX9_101 : zk_V RX9 101 yX9_mayCome 2 = true := by decide +kernel
theorem kX9_106 : zk_V RX9 106 yX9_above 1 = true := by decide +kernel
theorem kX9_109 : zk_V RX9 109 yX9_below 1 = true := by decide +kernel
theorem kX9_112 : zk_V RX9 112 yX9_extreme 2 = true := by decide +kernel
theorem kJ7_304 : zk_S RJ7 304 yJ9_min_7cf53 2 = true := by decide +kernel
theorem kL_9 : zk_I RL 9 yX8_init 0 = true := by decide +kernel
theorem kL_12 : zk_I RL 12 yX9_init 0 = true := by decide +kernel
theorem kL_13 : zk_V RL 13 yX8_begin 1 = true := by decide +kernel
theorem kL_17 : zk_V RL 17 yX9_begin 1 = true := by decide +kernel
theorem kL_18 : zk_V RL 18 yX8_put 2 = true := by decide +kernel
theorem kL_22 : zk_V RL 22 yX9_put 2 = true := by decide +kernel
theorem kL_23 : zk_V RL 23 yX8_free 1 = true := by decide +kernel
theorem kL_26 : zk_V RL 26 yX9_free 1 = true := by decide +kernel
theorem kL_27 : zk_V RL 27 yX8_isBelow 2 = true := by decide +kernel
theorem kL_31 : zk_V RL 31 yX9_isBelow 2 = true := by decide +kernel
theorem kL_32 : zk_V RL 32 yX8_covers 1 = true := by decide +kernel
theorem kL_35 : zk_V RL 35 yX9_covers 1 = true := by decide +kernel
theorem kL_36 : zk_V RL 36 yX8_count 1 = true := by decide +kernel
theorem kL_39 : zk_V RL 39 yX9_count 1 = true := by decide +kernel
theorem kL_40 : zk_V RL 40 yX8_chain 1 = true := by decide +kernel
theorem kL_43 : zk_V RL 43 yX9_chain 1 = true := by decide +kernel
theorem kL_44 : zk_V RL 44 yX8_apart 0 = true := by decide +kernel
theorem kL_48 : zk_V RL 48 yX9_apart 0 = true := by decide +kernel
theorem kL_49 : zk_V RL 49 yX8_next 1 = true := by decide +kernel
theorem kL_52 : zk_V RL 52 yX9_next 1 = true := by decide +kernel
theorem kL_53 : zk_V RL 53 yX8_rows 0 = true := by decide +kernel
theorem kL_57 : zk_V RL 57 yX9_rows 0 = true := by decide +kernel
theorem kL_58 : zk_V RL 58 yX8_before 2 = true := by decide +kernel
theorem kL_62 : zk_V RL 62 yX9_before 2 = true := by decide +kernel
theorem kL_63 : zk_V RL 63 yX8_places 2 = true := by decide +kernel
theorem kL_66 : zk_V RL 66 yX9_places 2 = true := by decide +kernel
theorem kL_69 : zk_V RL 69 yX8_row 1 = true := by decide +kernel
theorem kL_73 : zk_V RL 73 yX9_row 1 = true := by decide +kernel
theorem kL_74 : zk_V RL 74 yX8_rank 1 = true := by decide +kernel
theorem kL_77 : zk_V RL 77 yX9_rank 1 = true := by decide +kernel
theorem kL_78 : zk_V RL 78 yX8_cut 1 = true := by decide +kernel
theorem kL_81 : zk_V RL 81 yX9_cut 1 = true := by decide +kernel
theorem kL_82 : zk_V RL 82 yX8_least 1 = true := by decide +kernel
theorem kL_85 : zk_V RL 85 yX9_least 1 = true := by decide +kernel
theorem kL_86 : zk_V RL 86 yX8_joined 3 = true := by decide +kernel
theorem kL_90 : zk_V RL 90 yX9_joined 3 = true := by decide +kernel
theorem kL_91 : zk_V RL 91 yX8_mu 2 = true := by decide +kernel
theorem kL_94 : zk_V RL 94 yX9_mu 2 = true := by decide +kernel
theorem kL_95 : zk_V RL 95 yX8_muOfCuts 2 = true := by decide +kernel
theorem kL_98 : zk_V RL 98 yX9_muOfCuts 2 = true := by decide +kernel
