/-! THE WALKING LAYER. zv_V: the machine at pc with locals lv, stack st, world ws comes to its end. zv_ev: what zv_V at a pc comes down to, instruction by instruction, until a leaf (a call, a return, a stop). -/
abbrev zv_H : Type := Nat × Nat × Nat × Nat × Int32 × Int64
abbrev zv_I : Type := Nat × Jvm.ClassFile.Instr × Nat × zv_H
abbrev zv_L : Type := List (Nat × Value)
abbrev zv_X : Type := Program × Env × State × MethodId × Array Value × List Frame × Method × Code × (Nat → Prop) × (State → Prop)
abbrev zv_G : Type := Launch × Room × va_G × List vw_C × List (ClassId × FieldType) × Nat × ByteArray × String × List Jvm.Cond
def zv_V (x : zv_X) (g : zv_G) (pc : Nat) (lv : zv_L) (st : List Value) (ws : va_W) (ce sl : Nat) : Prop := match x, g with
  | (p, e, s, m, args, below, meth, c, A, Q), (l, R, D, cl, _, nL, _, _, _) => ∀ (H : Heap) (locs : List Loc) (ls : Array Slot), va_P D cl ws H → va_D A ws → va_S A s.heap H locs → lv_has ls nL lv → W p l e R s m args below meth c H locs ce sl Q (F0 m pc ls st)
/-- the links to private members of nest mates -/
def zv_nl : List (String × Nat × MethodName × String) := [("OrderDesk", 9, ⟨"OrderDesk$Order", "<init>", "()V"⟩, "OrderDesk"), ("OrderDesk", 60, ⟨"OrderDesk$MuRow", "<init>", "()V"⟩, "OrderDesk"), ("OrderDesk$MuRow", 29, ⟨"OrderDesk", "isPart", "(II)Z"⟩, "OrderDesk")]
def zv_E (U : State) : Prop := ∀ q ∈ zv_nl, va_Nw (.methodLinkNest q.1 q.2.1 q.2.2.1 q.2.2.2) U
/-- the classes' tables are among the words; each field has a type, no two have one name -/
def zv_cl (cl : List vw_C) (Ts : List Jvm.Cond) : Bool := cl.all (fun q => (u_ws q.1 q.2.1 q.2.2).all (fun w => decide (w ∈ Ts)) && (List.range q.2.2).all (fun a => (parseFieldDescriptor (q.2.1 a).2.2.1).isSome && (List.range q.2.2).all (fun b => decide (a = b) || !decide ((q.2.1 a).2.1 = (q.2.1 b).2.1))))
def zv_ty (T : u_T) : Nat → FieldType := fun k => (parseFieldDescriptor (T k).2.2.1).getD .int
theorem zv_cl_e {cl : List vw_C} {Ts : List Jvm.Cond} (h : zv_cl cl Ts = true) {ci : Nat} {C : String} {T : u_T} {N : Nat} (hc : cl[ci]? = some (C, T, N)) : (∀ w ∈ u_ws C T N, w ∈ Ts) ∧ (∀ k, k < N → parseFieldDescriptor (T k).2.2.1 = some (zv_ty T k)) ∧ (∀ a, a < N → ∀ b, b < N → a ≠ b → (T a).2.1 ≠ (T b).2.1) := by
  have h1 := List.all_eq_true.mp h _ (List.mem_of_getElem? hc)
  simp only [Bool.and_eq_true, List.all_eq_true, List.mem_range, Bool.not_eq_true', Bool.or_eq_true, decide_eq_true_eq, decide_eq_false_iff_not] at h1
  obtain ⟨h1, h2⟩ := h1
  refine ⟨h1, fun k hk => ?_, fun a ha b hb hab => ?_⟩
  · have h4 := (h2 k hk).1
    unfold zv_ty
    cases hp : parseFieldDescriptor (T k).2.2.1 with
    | none => rw [hp] at h4; cases h4
    | some t => rfl
  · rcases (h2 a ha).2 b hb with h5 | h5
    · exact absurd h5 hab
    · exact h5
def zv_C (x : zv_X) (g : zv_G) : Prop := match x, g with
  | (p, e, s, m, args, below, meth, c, A, Q), (l, R, D, cl, tys, nL, cc, own, Ts) => p.tables.exec = Jvm.exec ∧ c.code = cc ∧ c.maxLocals = nL ∧ s.vm.findClass own = some m.cls ∧ (∀ w ∈ Ts, w.before args s = true) ∧ va_K D cl tys s ∧ (∀ q, s.heap.size ≤ q → A q) ∧ zv_E s ∧ zv_cl cl Ts = true
def zv_find : List zv_I → Nat → Option (Jvm.ClassFile.Instr × Nat × zv_H)
  | [], _ => none
  | (q, r) :: t, pc => bif Nat.beq q pc then some r else zv_find t pc
theorem zv_find_mem : ∀ (tb : List zv_I) (pc : Nat) (r : Jvm.ClassFile.Instr × Nat × zv_H), zv_find tb pc = some r → (pc, r) ∈ tb
  | [], pc, r, h => by cases h
  | (q, r0) :: t, pc, r, h => by
    unfold zv_find at h
    cases hq : Nat.beq q pc with
    | true =>
      rw [hq] at h
      have e : q = pc := Nat.eq_of_beq_eq_true hq
      subst e
      cases h
      exact List.mem_cons_self
    | false =>
      rw [hq] at h
      exact List.mem_cons_of_mem _ (zv_find_mem t pc r h)
-- locals: looked up, set in place
def zv_lg : zv_L → Nat → Option Value
  | [], _ => none
  | (j, v) :: t, i => bif Nat.beq j i then some v else zv_lg t i
theorem zv_lg_mem : ∀ (l : zv_L) (i : Nat) (v : Value), zv_lg l i = some v → (i, v) ∈ l
  | [], i, v, h => by cases h
  | (q, r0) :: t, i, v, h => by
    unfold zv_lg at h
    cases hq : Nat.beq q i with
    | true =>
      rw [hq] at h
      have e : q = i := Nat.eq_of_beq_eq_true hq
      subst e
      cases h
      exact List.mem_cons_self
    | false =>
      rw [hq] at h
      exact List.mem_cons_of_mem _ (zv_lg_mem t i v h)
def zv_c2 : Value → Bool
  | .long _ => true
  | .double _ => true
  | _ => false
theorem zv_c2_eq (v : Value) : (v.category == 2) = zv_c2 v := by cases v <;> rfl
theorem zv_c1_eq {v : Value} (h : zv_c2 v = false) : v.category = 1 := by cases v <;> first | rfl | cases h
theorem zv_c2_of {v : Value} (h : zv_c2 v = true) : v.category = 2 := by cases v <;> first | rfl | cases h
def zv_d1 (i : Nat) (q : Nat × Value) : Bool := Nat.beq (q.1 + 1) i && zv_c2 q.2
def zv_d2 (i : Nat) (q : Nat × Value) : Bool := Nat.beq q.1 (i + 1) || (Nat.beq (q.1 + 1) i && zv_c2 q.2)
def zv_fil (d : Nat × Value → Bool) (i : Nat) : zv_L → zv_L
  | [] => []
  | q :: t => bif Nat.beq q.1 i || d q then zv_fil d i t else q :: zv_fil d i t
def zv_set (d : Nat × Value → Bool) (i : Nat) (v : Value) : zv_L → zv_L
  | [] => [(i, v)]
  | q :: t => bif Nat.beq q.1 i then (i, v) :: zv_fil d i t else bif d q then zv_set d i v t else q :: zv_set d i v t
theorem zv_fil_mem {d : Nat × Value → Bool} {i : Nat} {q : Nat × Value} : ∀ (l : zv_L), q ∈ zv_fil d i l → q ∈ l ∧ q.1 ≠ i ∧ d q = false
  | [], h => by cases h
  | r :: t, h => by
    unfold zv_fil at h
    cases hb : (Nat.beq r.1 i || d r) with
    | true =>
      rw [hb] at h
      obtain ⟨h1, h2⟩ := zv_fil_mem t h
      exact ⟨List.mem_cons_of_mem _ h1, h2⟩
    | false =>
      rw [hb] at h
      rcases List.mem_cons.mp h with h | h
      · subst h
        rw [Bool.or_eq_false_iff] at hb
        refine ⟨List.mem_cons_self, fun e => ?_, hb.2⟩
        rw [e, Nat.beq_refl] at hb
        cases hb.1
      · obtain ⟨h1, h2⟩ := zv_fil_mem t h
        exact ⟨List.mem_cons_of_mem _ h1, h2⟩
theorem zv_set_mem {d : Nat × Value → Bool} {i : Nat} {v : Value} {q : Nat × Value} : ∀ (l : zv_L), q ∈ zv_set d i v l → q = (i, v) ∨ (q ∈ l ∧ q.1 ≠ i ∧ d q = false)
  | [], h => by
    rcases List.mem_cons.mp h with h | h
    · exact Or.inl h
    · cases h
  | r :: t, h => by
    unfold zv_set at h
    cases hb : Nat.beq r.1 i with
    | true =>
      rw [hb] at h
      rcases List.mem_cons.mp h with h | h
      · exact Or.inl h
      · obtain ⟨h1, h2⟩ := zv_fil_mem t h
        exact Or.inr ⟨List.mem_cons_of_mem _ h1, h2⟩
    | false =>
      rw [hb] at h
      cases hd : d r with
      | true =>
        rw [hd] at h
        rcases zv_set_mem t h with h | ⟨h1, h2⟩
        · exact Or.inl h
        · exact Or.inr ⟨List.mem_cons_of_mem _ h1, h2⟩
      | false =>
        rw [hd] at h
        rcases List.mem_cons.mp h with h | h
        · subst h
          refine Or.inr ⟨List.mem_cons_self, fun e => ?_, hd⟩
          rw [e, Nat.beq_refl] at hb
          cases hb
        · rcases zv_set_mem t h with h | ⟨h1, h2⟩
          · exact Or.inl h
          · exact Or.inr ⟨List.mem_cons_of_mem _ h1, h2⟩
theorem zv_beq {a b : Nat} : (a == b) = Nat.beq a b := Bool.eq_iff_iff.mpr ⟨fun h => by rw [beq_iff_eq.mp h]; exact Nat.beq_refl _, fun h => beq_iff_eq.mpr (Nat.eq_of_beq_eq_true h)⟩
theorem zv_beq_ne {a b : Nat} (h : a ≠ b) : (a == b) = false := by simpa using h
theorem zv_has1 {ls : Array Slot} {nL i : Nat} {v : Value} {lv : zv_L} (h : lv_has ls nL ((i, v) :: lv.filter (fun q => !(q.1 == i) && !(q.1 + 1 == i && q.2.category == 2)))) : lv_has ls nL (zv_set (zv_d1 i) i v lv) := by
  refine ⟨h.1, h.2.1, fun q hq => ?_⟩
  rcases zv_set_mem lv hq with e | ⟨h1, h2, h3⟩
  · subst e
    exact h.2.2 _ List.mem_cons_self
  · refine h.2.2 q (List.mem_cons_of_mem _ (List.mem_filter.mpr ⟨h1, ?_⟩))
    unfold zv_d1 at h3
    rw [zv_c2_eq, zv_beq_ne h2]
    rw [zv_beq, h3]
    rfl
theorem zv_has2 {ls : Array Slot} {nL i : Nat} {v : Value} {lv : zv_L} (h : lv_has ls nL ((i, v) :: lv.filter (fun q => !(q.1 == i) && (!(q.1 == i + 1) && !(q.1 + 1 == i && q.2.category == 2))))) : lv_has ls nL (zv_set (zv_d2 i) i v lv) := by
  refine ⟨h.1, h.2.1, fun q hq => ?_⟩
  rcases zv_set_mem lv hq with e | ⟨h1, h2, h3⟩
  · subst e
    exact h.2.2 _ List.mem_cons_self
  · refine h.2.2 q (List.mem_cons_of_mem _ (List.mem_filter.mpr ⟨h1, ?_⟩))
    unfold zv_d2 at h3
    rw [Bool.or_eq_false_iff] at h3
    rw [zv_c2_eq, zv_beq_ne h2]
    rw [zv_beq, zv_beq, h3.1, h3.2]
    rfl
-- shapes of the stack, the locals and the world

def zv_s1i (st : List Value) (f : Int32 → List Value → Prop) (d : Prop) : Prop := match st with
  | .int x :: r => f x r
  | _ => d
theorem zv_s1i_e {st : List Value} {f : Int32 → List Value → Prop} {d G : Prop} (h : zv_s1i st f d) (h1 : ∀ (x : Int32) (r : List Value), st = .int x :: r → f x r → G) (h2 : d → G) : G := by
  unfold zv_s1i at h
  split at h
  · exact h1 _ _ rfl h
  · exact h2 h
def zv_s2i (st : List Value) (f : Int32 → Int32 → List Value → Prop) (d : Prop) : Prop := match st with
  | .int y :: .int x :: r => f x y r
  | _ => d
theorem zv_s2i_e {st : List Value} {f : Int32 → Int32 → List Value → Prop} {d G : Prop} (h : zv_s2i st f d) (h1 : ∀ (x : Int32) (y : Int32) (r : List Value), st = .int y :: .int x :: r → f x y r → G) (h2 : d → G) : G := by
  unfold zv_s2i at h
  split at h
  · exact h1 _ _ _ rfl h
  · exact h2 h
def zv_s1l (st : List Value) (f : Int64 → List Value → Prop) (d : Prop) : Prop := match st with
  | .long x :: r => f x r
  | _ => d
theorem zv_s1l_e {st : List Value} {f : Int64 → List Value → Prop} {d G : Prop} (h : zv_s1l st f d) (h1 : ∀ (x : Int64) (r : List Value), st = .long x :: r → f x r → G) (h2 : d → G) : G := by
  unfold zv_s1l at h
  split at h
  · exact h1 _ _ rfl h
  · exact h2 h
def zv_s2l (st : List Value) (f : Int64 → Int64 → List Value → Prop) (d : Prop) : Prop := match st with
  | .long y :: .long x :: r => f x y r
  | _ => d
theorem zv_s2l_e {st : List Value} {f : Int64 → Int64 → List Value → Prop} {d G : Prop} (h : zv_s2l st f d) (h1 : ∀ (x : Int64) (y : Int64) (r : List Value), st = .long y :: .long x :: r → f x y r → G) (h2 : d → G) : G := by
  unfold zv_s2l at h
  split at h
  · exact h1 _ _ _ rfl h
  · exact h2 h
def zv_sli (st : List Value) (f : Int64 → Int32 → List Value → Prop) (d : Prop) : Prop := match st with
  | .int y :: .long x :: r => f x y r
  | _ => d
theorem zv_sli_e {st : List Value} {f : Int64 → Int32 → List Value → Prop} {d G : Prop} (h : zv_sli st f d) (h1 : ∀ (x : Int64) (y : Int32) (r : List Value), st = .int y :: .long x :: r → f x y r → G) (h2 : d → G) : G := by
  unfold zv_sli at h
  split at h
  · exact h1 _ _ _ rfl h
  · exact h2 h
def zv_s1r (st : List Value) (f : Nat → List Value → Prop) (d : Prop) : Prop := match st with
  | .ref a :: r => f a r
  | _ => d
theorem zv_s1r_e {st : List Value} {f : Nat → List Value → Prop} {d G : Prop} (h : zv_s1r st f d) (h1 : ∀ (a : Nat) (r : List Value), st = .ref a :: r → f a r → G) (h2 : d → G) : G := by
  unfold zv_s1r at h
  split at h
  · exact h1 _ _ rfl h
  · exact h2 h
def zv_sir (st : List Value) (f : Nat → Int32 → List Value → Prop) (d : Prop) : Prop := match st with
  | .int i :: .ref a :: r => f a i r
  | _ => d
theorem zv_sir_e {st : List Value} {f : Nat → Int32 → List Value → Prop} {d G : Prop} (h : zv_sir st f d) (h1 : ∀ (a : Nat) (i : Int32) (r : List Value), st = .int i :: .ref a :: r → f a i r → G) (h2 : d → G) : G := by
  unfold zv_sir at h
  split at h
  · exact h1 _ _ _ rfl h
  · exact h2 h
def zv_siir (st : List Value) (f : Nat → Int32 → Int32 → List Value → Prop) (d : Prop) : Prop := match st with
  | .int x :: .int i :: .ref a :: r => f a i x r
  | _ => d
theorem zv_siir_e {st : List Value} {f : Nat → Int32 → Int32 → List Value → Prop} {d G : Prop} (h : zv_siir st f d) (h1 : ∀ (a : Nat) (i : Int32) (x : Int32) (r : List Value), st = .int x :: .int i :: .ref a :: r → f a i x r → G) (h2 : d → G) : G := by
  unfold zv_siir at h
  split at h
  · exact h1 _ _ _ _ rfl h
  · exact h2 h
def zv_slir (st : List Value) (f : Nat → Int32 → Int64 → List Value → Prop) (d : Prop) : Prop := match st with
  | .long x :: .int i :: .ref a :: r => f a i x r
  | _ => d
theorem zv_slir_e {st : List Value} {f : Nat → Int32 → Int64 → List Value → Prop} {d G : Prop} (h : zv_slir st f d) (h1 : ∀ (a : Nat) (i : Int32) (x : Int64) (r : List Value), st = .long x :: .int i :: .ref a :: r → f a i x r → G) (h2 : d → G) : G := by
  unfold zv_slir at h
  split at h
  · exact h1 _ _ _ _ rfl h
  · exact h2 h
def zv_s1v (st : List Value) (f : Value → List Value → Prop) (d : Prop) : Prop := match st with
  | v :: r => f v r
  | _ => d
theorem zv_s1v_e {st : List Value} {f : Value → List Value → Prop} {d G : Prop} (h : zv_s1v st f d) (h1 : ∀ (v : Value) (r : List Value), st = v :: r → f v r → G) (h2 : d → G) : G := by
  unfold zv_s1v at h
  split at h
  · exact h1 _ _ rfl h
  · exact h2 h
def zv_s2v (st : List Value) (f : Value → Value → List Value → Prop) (d : Prop) : Prop := match st with
  | v :: w :: r => f v w r
  | _ => d
theorem zv_s2v_e {st : List Value} {f : Value → Value → List Value → Prop} {d G : Prop} (h : zv_s2v st f d) (h1 : ∀ (v : Value) (w : Value) (r : List Value), st = v :: w :: r → f v w r → G) (h2 : d → G) : G := by
  unfold zv_s2v at h
  split at h
  · exact h1 _ _ _ rfl h
  · exact h2 h
def zv_s3v (st : List Value) (f : Value → Value → Value → List Value → Prop) (d : Prop) : Prop := match st with
  | v :: w :: z :: r => f v w z r
  | _ => d
theorem zv_s3v_e {st : List Value} {f : Value → Value → Value → List Value → Prop} {d G : Prop} (h : zv_s3v st f d) (h1 : ∀ (v : Value) (w : Value) (z : Value) (r : List Value), st = v :: w :: z :: r → f v w z r → G) (h2 : d → G) : G := by
  unfold zv_s3v at h
  split at h
  · exact h1 _ _ _ _ rfl h
  · exact h2 h
def zv_svr (st : List Value) (f : Value → Nat → List Value → Prop) (d : Prop) : Prop := match st with
  | v :: .ref a :: r => f v a r
  | _ => d
theorem zv_svr_e {st : List Value} {f : Value → Nat → List Value → Prop} {d G : Prop} (h : zv_svr st f d) (h1 : ∀ (v : Value) (a : Nat) (r : List Value), st = v :: .ref a :: r → f v a r → G) (h2 : d → G) : G := by
  unfold zv_svr at h
  split at h
  · exact h1 _ _ _ rfl h
  · exact h2 h
def zv_li (lv : zv_L) (i : Nat) (f : Int32 → Prop) (d : Prop) : Prop := match zv_lg lv i with
  | some (.int x) => f x
  | _ => d
theorem zv_li_e {lv : zv_L} {i : Nat} {f : Int32 → Prop} {d G : Prop} (h : zv_li lv i f d) (h1 : ∀ x, (i, Value.int x) ∈ lv → f x → G) (h2 : d → G) : G := by
  unfold zv_li at h
  split at h
  · exact h1 _ (zv_lg_mem _ _ _ (by assumption)) h
  · exact h2 h
def zv_ll (lv : zv_L) (i : Nat) (f : Int64 → Prop) (d : Prop) : Prop := match zv_lg lv i with
  | some (.long x) => f x
  | _ => d
theorem zv_ll_e {lv : zv_L} {i : Nat} {f : Int64 → Prop} {d G : Prop} (h : zv_ll lv i f d) (h1 : ∀ x, (i, Value.long x) ∈ lv → f x → G) (h2 : d → G) : G := by
  unfold zv_ll at h
  split at h
  · exact h1 _ (zv_lg_mem _ _ _ (by assumption)) h
  · exact h2 h
def zv_lr (lv : zv_L) (i : Nat) (f : Nat → Prop) (d : Prop) : Prop := match zv_lg lv i with
  | some (.ref x) => f x
  | _ => d
theorem zv_lr_e {lv : zv_L} {i : Nat} {f : Nat → Prop} {d G : Prop} (h : zv_lr lv i f d) (h1 : ∀ x, (i, Value.ref x) ∈ lv → f x → G) (h2 : d → G) : G := by
  unfold zv_lr at h
  split at h
  · exact h1 _ (zv_lg_mem _ _ _ (by assumption)) h
  · exact h2 h
def zv_ob (ws : va_W) (q0 ci k : Nat) (f : Nat → Value → Prop) (d : Prop) : Prop := match ws[q0]? with
  | some (a, .inr (c, fs)) => bif Nat.beq c ci then (match fs[k]? with
    | some v => f a v
    | none => d) else d
  | _ => d
theorem zv_ob_e {ws : va_W} {q0 ci k : Nat} {f : Nat → Value → Prop} {d G : Prop} (h : zv_ob ws q0 ci k f d) (h1 : ∀ a fs v, ws[q0]? = some (a, .inr (ci, fs)) → fs[k]? = some v → f a v → G) (h2 : d → G) : G := by
  unfold zv_ob at h
  split at h
  · rename_i a c fs hw
    cases hc : Nat.beq c ci with
    | true =>
      rw [hc] at h
      have e : c = ci := Nat.eq_of_beq_eq_true hc
      subst e
      simp only [cond_true] at h
      split at h
      · exact h1 _ _ _ hw (by assumption) h
      · exact h2 h
    | false =>
      rw [hc] at h
      exact h2 h
  · exact h2 h
/-- a field's new value: of a kind with its type (0 int, 1 long, 2 a reference) -/
def zv_kd (kd : Nat) (v : Value) : Bool := match v with
  | .int _ => Nat.beq kd 0
  | .long _ => Nat.beq kd 1
  | .ref _ => Nat.beq kd 2
  | _ => false
def zv_pb (ws : va_W) (q0 ci k kd : Nat) (v : Value) (f : Nat → va_W → Prop) (d : Prop) : Prop := match ws[q0]? with
  | some (a, .inr (c, fs)) => bif Nat.beq c ci && (Nat.ble (k + 1) fs.length && zv_kd kd v) then f a (ws.set q0 (a, .inr (ci, fs.set k v))) else d
  | _ => d
theorem zv_pb_e {ws : va_W} {q0 ci k kd : Nat} {v : Value} {f : Nat → va_W → Prop} {d G : Prop} (h : zv_pb ws q0 ci k kd v f d) (h1 : ∀ a fs, ws[q0]? = some (a, .inr (ci, fs)) → k < fs.length → zv_kd kd v = true → f a (ws.set q0 (a, .inr (ci, fs.set k v))) → G) (h2 : d → G) : G := by
  unfold zv_pb at h
  split at h
  · rename_i a c fs hw
    cases hc : Nat.beq c ci && (Nat.ble (k + 1) fs.length && zv_kd kd v) with
    | true =>
      rw [hc] at h
      simp only [Bool.and_eq_true] at hc
      obtain ⟨h3, h4, h5⟩ := hc
      have e : c = ci := Nat.eq_of_beq_eq_true h3
      subst e
      exact h1 _ _ hw (Nat.le_of_ble_eq_true h4) h5 h
    | false =>
      rw [hc] at h
      exact h2 h
  · exact h2 h

def zv_ai (ws : va_W) (q0 : Nat) (f : Nat → ClassId → Nat → (Nat → Int32) → Prop) (d : Prop) : Prop := match ws[q0]? with
  | some (a, .inl (cA, n, .inl f0)) => f a cA n f0
  | _ => d
theorem zv_ai_e {ws : va_W} {q0 : Nat} {f : Nat → ClassId → Nat → (Nat → Int32) → Prop} {d G : Prop} (h : zv_ai ws q0 f d) (h1 : ∀ a cA n f0, ws[q0]? = some (a, .inl (cA, n, .inl f0)) → f a cA n f0 → G) (h2 : d → G) : G := by
  unfold zv_ai at h
  split at h
  · exact h1 _ _ _ _ (by assumption) h
  · exact h2 h
def zv_al (ws : va_W) (q0 : Nat) (f : Nat → ClassId → Nat → (Nat → Int64) → Prop) (d : Prop) : Prop := match ws[q0]? with
  | some (a, .inl (cA, n, .inr (.inl f0))) => f a cA n f0
  | _ => d
theorem zv_al_e {ws : va_W} {q0 : Nat} {f : Nat → ClassId → Nat → (Nat → Int64) → Prop} {d G : Prop} (h : zv_al ws q0 f d) (h1 : ∀ a cA n f0, ws[q0]? = some (a, .inl (cA, n, .inr (.inl f0))) → f a cA n f0 → G) (h2 : d → G) : G := by
  unfold zv_al at h
  split at h
  · exact h1 _ _ _ _ (by assumption) h
  · exact h2 h
def zv_an (ws : va_W) (q0 : Nat) (f : Nat → ClassId → Nat → Prop) (d : Prop) : Prop := match ws[q0]? with
  | some (a, .inl (cA, n, _)) => f a cA n
  | _ => d
theorem zv_an_e {ws : va_W} {q0 : Nat} {f : Nat → ClassId → Nat → Prop} {d G : Prop} (h : zv_an ws q0 f d) (h1 : ∀ a cA n y, ws[q0]? = some (a, .inl (cA, n, y)) → f a cA n → G) (h2 : d → G) : G := by
  unfold zv_an at h
  split at h
  · exact h1 _ _ _ _ (by assumption) h
  · exact h2 h
def zv_cz (c : Jvm.ClassFile.Cond) (x : Int32) (T F : Prop) : Prop := match c with
  | .eq => (x = 0 → T) ∧ (¬ x = 0 → F)
  | .ne => (¬ x = 0 → T) ∧ (x = 0 → F)
  | .lt => (x < 0 → T) ∧ (¬ x < 0 → F)
  | .ge => (0 ≤ x → T) ∧ (¬ 0 ≤ x → F)
  | .gt => (0 < x → T) ∧ (¬ 0 < x → F)
  | .le => (x ≤ 0 → T) ∧ (¬ x ≤ 0 → F)
def zv_cc (c : Jvm.ClassFile.Cond) (x y : Int32) (T F : Prop) : Prop := match c with
  | .eq => (x = y → T) ∧ (¬ x = y → F)
  | .ne => (¬ x = y → T) ∧ (x = y → F)
  | .lt => (x < y → T) ∧ (¬ x < y → F)
  | .ge => (y ≤ x → T) ∧ (¬ y ≤ x → F)
  | .gt => (y < x → T) ∧ (¬ y < x → F)
  | .le => (x ≤ y → T) ∧ (¬ x ≤ y → F)

def zv_k2t (k : Nat) : FieldType := bif Nat.beq k 0 then .int else bif Nat.beq k 1 then .long else bif Nat.beq k 2 then .byte else .boolean
/-- a field instruction's words: the class is in the list of classes, the field is linked -/
def zv_fld (own : String) (Ts : List Jvm.Cond) (cl : List vw_C) (n ci k : Nat) : Bool := match cl[ci]? with
  | some (_, T, N) => decide (k < N) && decide (Jvm.Cond.fieldLink own n (T k).1 (T k).2.1 (T k).2.2.1 ∈ Ts)
  | none => false
theorem zv_fld_e {own : String} {Ts : List Jvm.Cond} {cl : List vw_C} {n ci k : Nat} (h : zv_fld own Ts cl n ci k = true) : ∃ C T N, cl[ci]? = some (C, T, N) ∧ k < N ∧ Jvm.Cond.fieldLink own n (T k).1 (T k).2.1 (T k).2.2.1 ∈ Ts := by
  unfold zv_fld at h
  split at h
  · rename_i C T N hc
    simp only [Bool.and_eq_true, decide_eq_true_eq] at h
    exact ⟨C, T, N, hc, h.1, h.2⟩
  · cases h
def zv_fit (cl : List vw_C) (ci k kd : Nat) : Bool := match cl[ci]? with
  | some (_, T, _) => match parseFieldDescriptor (T k).2.2.1 with
    | some .int => Nat.beq kd 0
    | some .long => Nat.beq kd 1
    | some (.object _) => Nat.beq kd 2
    | some (.array _) => Nat.beq kd 2
    | _ => false
  | none => false
def zv_fin (cl : List vw_C) (ci k : Nat) (b : Bool) : Bool := match cl[ci]? with
  | some (_, T, _) => (T k).2.2.2 == b
  | none => false
theorem zv_fin_e {cl : List vw_C} {ci k : Nat} {b : Bool} {C : String} {T : u_T} {N : Nat} (hc : cl[ci]? = some (C, T, N)) (h : zv_fin cl ci k b = true) : (T k).2.2.2 = b := by
  unfold zv_fin at h
  rw [hc] at h
  exact beq_iff_eq.mp h
theorem zv_fit_e {cl : List vw_C} {ci k kd : Nat} {C : String} {T : u_T} {N : Nat} {v : Value} (hc : cl[ci]? = some (C, T, N)) (h : zv_fit cl ci k kd = true) (hv : zv_kd kd v = true) :
    ∃ ty, parseFieldDescriptor (T k).2.2.1 = some ty ∧ narrow ty v = v ∧ fits ty v = true := by
  unfold zv_fit at h
  rw [hc] at h
  dsimp only at h
  cases hp : parseFieldDescriptor (T k).2.2.1 with
  | none => rw [hp] at h; cases h
  | some t =>
    rw [hp] at h
    refine ⟨t, rfl, ?_⟩
    cases v with
    | int x =>
      have e : kd = 0 := Nat.eq_of_beq_eq_true hv
      subst e
      cases t <;> first | exact ⟨rfl, rfl⟩ | (simp at h; done) | cases h
    | long x =>
      have e : kd = 1 := Nat.eq_of_beq_eq_true hv
      subst e
      cases t <;> first | exact ⟨rfl, rfl⟩ | (simp at h; done) | cases h
    | ref x =>
      have e : kd = 2 := Nat.eq_of_beq_eq_true hv
      subst e
      cases t <;> first | exact ⟨rfl, rfl⟩ | (simp at h; done) | cases h
    | null => cases hv
    | float x => cases hv
    | double x => cases hv
    | retAddr x => cases hv
def zv_ln : Jvm.ClassFile.Instr → Nat
  | .bipush _ => 2 | .sipush _ => 3 | .ldc _ => 2 | .ldc_w _ => 3 | .ldc2_w _ => 3
  | .iload _ => 2 | .lload _ => 2 | .aload _ => 2 | .istore _ => 2 | .lstore _ => 2 | .astore _ => 2
  | .iinc _ _ => 3 | .ifCond _ _ => 3 | .if_icmp _ _ => 3 | .goto _ => 3 | .getfield _ => 3 | .putfield _ => 3
  | _ => 1
def zv_xt (nL : Nat) (own : String) (Ts : List Jvm.Cond) (cl : List vw_C) (pc : Nat) (i : Jvm.ClassFile.Instr) (h : zv_H) : Bool := match i with
  | .iconst n => decide (Int32.ofInt n = h.2.2.2.2.1)
  | .bipush n => decide ((Int8.ofInt n).toInt32 = h.2.2.2.2.1)
  | .sipush n => decide ((Int16.ofInt n).toInt32 = h.2.2.2.2.1)
  | .ldc n => decide (Jvm.Cond.constant own n h.2.2.2.2.1 ∈ Ts)
  | .ldc_w n => decide (Jvm.Cond.constant own n h.2.2.2.2.1 ∈ Ts)
  | .lconst n => decide (Int64.ofNat n.val = h.2.2.2.2.2)
  | .ldc2_w n => decide (Jvm.Cond.constantLong own n h.2.2.2.2.2 ∈ Ts)
  | .istore k => decide (k < nL)
  | .astore k => decide (k < nL)
  | .lstore k => decide (k + 1 < nL)
  | .istore_n k => decide (k.val < nL)
  | .astore_n k => decide (k.val < nL)
  | .lstore_n k => decide (k.val + 1 < nL)
  | .iinc k n => decide (Int32.ofInt n = h.2.2.2.2.1) && decide (k < nL)
  | .ifCond _ off => decide ((pc : Int) + off = (h.1 : Int))
  | .if_icmp _ off => decide ((pc : Int) + off = (h.1 : Int))
  | .goto off => decide ((pc : Int) + off = (h.1 : Int))
  | .getfield n => zv_fld own Ts cl n h.2.1 h.2.2.1
  | .putfield n => zv_fld own Ts cl n h.2.1 h.2.2.1 && (zv_fit cl h.2.1 h.2.2.1 h.2.2.2.1 && zv_fin cl h.2.1 h.2.2.1 false)
  | .baload => Nat.beq h.2.2.2.1 2 || Nat.beq h.2.2.2.1 3
  | .bastore => Nat.beq h.2.2.2.1 2 || Nat.beq h.2.2.2.1 3
  | _ => true
/-- the instructions that zv_1 steps over: for these the table must be right -/
def zv_sv : Jvm.ClassFile.Instr → Bool
  | .iconst _ => true
  | .bipush _ => true
  | .sipush _ => true
  | .ldc _ => true
  | .ldc_w _ => true
  | .lconst _ => true
  | .ldc2_w _ => true
  | .iload _ => true
  | .iload_n _ => true
  | .lload _ => true
  | .lload_n _ => true
  | .aload _ => true
  | .aload_n _ => true
  | .istore _ => true
  | .istore_n _ => true
  | .lstore _ => true
  | .lstore_n _ => true
  | .astore _ => true
  | .astore_n _ => true
  | .iinc _ _ => true
  | .iadd => true
  | .isub => true
  | .imul => true
  | .iand => true
  | .ior => true
  | .ixor => true
  | .ishl => true
  | .ishr => true
  | .idiv => true
  | .irem => true
  | .ladd => true
  | .lsub => true
  | .lmul => true
  | .land => true
  | .lor => true
  | .lxor => true
  | .ldiv => true
  | .lrem => true
  | .lcmp => true
  | .ineg => true
  | .lneg => true
  | .i2l => true
  | .l2i => true
  | .i2b => true
  | .i2s => true
  | .i2c => true
  | .iushr => true
  | .lushr => true
  | .lshl => true
  | .lshr => true
  | .dup => true
  | .pop => true
  | .dup_x1 => true
  | .dup_x2 => true
  | .dup2 => true
  | .dup2_x1 => true
  | .dup2_x2 => true
  | .ifCond _ _ => true
  | .if_icmp _ _ => true
  | .goto _ => true
  | .getfield _ => true
  | .putfield _ => true
  | .iaload => true
  | .laload => true
  | .iastore => true
  | .lastore => true
  | .arraylength => true
  | .baload => true
  | .bastore => true
  | _ => false
def zv_ok (nL : Nat) (cc : ByteArray) (own : String) (Ts : List Jvm.Cond) (cl : List vw_C) (tb : List zv_I) : Bool := tb.all (fun q => !zv_sv q.2.1 || (decide (decode cc q.1 = .ok (q.2.1, zv_ln q.2.1)) && (decide (q.2.2.1 = q.1 + zv_ln q.2.1) && zv_xt nL own Ts cl q.1 q.2.1 q.2.2.2)))
theorem zv_ok_e {nL : Nat} {cc : ByteArray} {own : String} {Ts : List Jvm.Cond} {cl : List vw_C} {tb : List zv_I} (h : zv_ok nL cc own Ts cl tb = true) {pc : Nat} {i : Jvm.ClassFile.Instr} {nx : Nat} {hh : zv_H} (hm : (pc, i, nx, hh) ∈ tb) (hs : zv_sv i = true) : decode cc pc = .ok (i, zv_ln i) ∧ nx = pc + zv_ln i ∧ zv_xt nL own Ts cl pc i hh = true := by
  have h1 := List.all_eq_true.mp h _ hm
  simp only [hs, Bool.not_true, Bool.false_or, Bool.and_eq_true, decide_eq_true_eq] at h1
  exact h1
def zv_1 (tys : List (ClassId × FieldType)) (i : Jvm.ClassFile.Instr) (nx ha hq fk kd : Nat) (cv : Int32) (lc : Int64) (leaf : Prop) (go : Nat → zv_L → List Value → va_W → Prop) (lv : zv_L) (st : List Value) (ws : va_W) : Prop := match i with
  | .iconst n => go nx lv (.int cv :: st) ws
  | .bipush n => go nx lv (.int cv :: st) ws
  | .sipush n => go nx lv (.int cv :: st) ws
  | .ldc n => go nx lv (.int cv :: st) ws
  | .ldc_w n => go nx lv (.int cv :: st) ws
  | .lconst n => go nx lv (.long lc :: st) ws
  | .ldc2_w n => go nx lv (.long lc :: st) ws
  | .iload k => zv_li lv k (fun x => go nx lv (.int x :: st) ws) leaf
  | .iload_n k => zv_li lv k.val (fun x => go nx lv (.int x :: st) ws) leaf
  | .lload k => zv_ll lv k (fun x => go nx lv (.long x :: st) ws) leaf
  | .lload_n k => zv_ll lv k.val (fun x => go nx lv (.long x :: st) ws) leaf
  | .aload k => zv_lr lv k (fun x => go nx lv (.ref x :: st) ws) leaf
  | .aload_n k => zv_lr lv k.val (fun x => go nx lv (.ref x :: st) ws) leaf
  | .istore k => zv_s1i st (fun x r => go nx (zv_set (zv_d1 k) k (.int x) lv) r ws) leaf
  | .istore_n k => zv_s1i st (fun x r => go nx (zv_set (zv_d1 k.val) k.val (.int x) lv) r ws) leaf
  | .lstore k => zv_s1l st (fun x r => go nx (zv_set (zv_d2 k) k (.long x) lv) r ws) leaf
  | .lstore_n k => zv_s1l st (fun x r => go nx (zv_set (zv_d2 k.val) k.val (.long x) lv) r ws) leaf
  | .astore k => zv_s1r st (fun x r => go nx (zv_set (zv_d1 k) k (.ref x) lv) r ws) leaf
  | .astore_n k => zv_s1r st (fun x r => go nx (zv_set (zv_d1 k.val) k.val (.ref x) lv) r ws) leaf
  | .iinc k n => zv_li lv k (fun x => go nx (zv_set (zv_d1 k) k (.int (x + cv)) lv) st ws) leaf
  | .iadd => zv_s2i st (fun x y r => go nx lv (.int (x + y) :: r) ws) leaf
  | .isub => zv_s2i st (fun x y r => go nx lv (.int (x - y) :: r) ws) leaf
  | .imul => zv_s2i st (fun x y r => go nx lv (.int (x * y) :: r) ws) leaf
  | .iand => zv_s2i st (fun x y r => go nx lv (.int (x &&& y) :: r) ws) leaf
  | .ior => zv_s2i st (fun x y r => go nx lv (.int (x ||| y) :: r) ws) leaf
  | .ixor => zv_s2i st (fun x y r => go nx lv (.int (x ^^^ y) :: r) ws) leaf
  | .ishl => zv_s2i st (fun x y r => go nx lv (.int (x <<< (y &&& 31)) :: r) ws) leaf
  | .ishr => zv_s2i st (fun x y r => go nx lv (.int (x >>> (y &&& 31)) :: r) ws) leaf
  | .idiv => zv_s2i st (fun x y r => ¬ y = 0 ∧ go nx lv (.int (x / y) :: r) ws) leaf
  | .irem => zv_s2i st (fun x y r => ¬ y = 0 ∧ go nx lv (.int (x - x / y * y) :: r) ws) leaf
  | .ladd => zv_s2l st (fun x y r => go nx lv (.long (x + y) :: r) ws) leaf
  | .lsub => zv_s2l st (fun x y r => go nx lv (.long (x - y) :: r) ws) leaf
  | .lmul => zv_s2l st (fun x y r => go nx lv (.long (x * y) :: r) ws) leaf
  | .land => zv_s2l st (fun x y r => go nx lv (.long (x &&& y) :: r) ws) leaf
  | .lor => zv_s2l st (fun x y r => go nx lv (.long (x ||| y) :: r) ws) leaf
  | .lxor => zv_s2l st (fun x y r => go nx lv (.long (x ^^^ y) :: r) ws) leaf
  | .ldiv => zv_s2l st (fun x y r => ¬ y = 0 ∧ go nx lv (.long (x / y) :: r) ws) leaf
  | .lrem => zv_s2l st (fun x y r => ¬ y = 0 ∧ go nx lv (.long (x - x / y * y) :: r) ws) leaf
  | .lcmp => zv_s2l st (fun x y r => go nx lv (.int (lg_cmp x y) :: r) ws) leaf
  | .ineg => zv_s1i st (fun x r => go nx lv (.int (-x) :: r) ws) leaf
  | .lneg => zv_s1l st (fun x r => go nx lv (.long (-x) :: r) ws) leaf
  | .i2l => zv_s1i st (fun x r => go nx lv (.long x.toInt64 :: r) ws) leaf
  | .l2i => zv_s1l st (fun x r => go nx lv (.int x.toInt32 :: r) ws) leaf
  | .i2b => zv_s1i st (fun x r => go nx lv (.int x.toInt8.toInt32 :: r) ws) leaf
  | .i2s => zv_s1i st (fun x r => go nx lv (.int x.toInt16.toInt32 :: r) ws) leaf
  | .i2c => zv_s1i st (fun x r => go nx lv (.int (x.toUInt32 % 65536).toInt32 :: r) ws) leaf
  | .iushr => zv_s2i st (fun x y r => go nx lv (.int (x.toUInt32 >>> (y.toUInt32 &&& Int32.toUInt32 31)).toInt32 :: r) ws) leaf
  | .lushr => zv_sli st (fun x y r => go nx lv (.long (x.toUInt64 >>> (y.toInt64.toUInt64 &&& Int64.toUInt64 63)).toInt64 :: r) ws) leaf
  | .lshl => zv_sli st (fun x y r => go nx lv (.long (x <<< (y.toInt64 &&& 63)) :: r) ws) leaf
  | .lshr => zv_sli st (fun x y r => go nx lv (.long (x >>> (y.toInt64 &&& 63)) :: r) ws) leaf
  | .dup => zv_s1v st (fun v r => bif zv_c2 v then leaf else go nx lv (v :: v :: r) ws) leaf
  | .pop => zv_s1v st (fun v r => bif zv_c2 v then leaf else go nx lv r ws) leaf
  | .dup_x1 => zv_s2v st (fun v w r => bif zv_c2 v || zv_c2 w then leaf else go nx lv (v :: w :: v :: r) ws) leaf
  | .dup_x2 => zv_s3v st (fun v w z r => bif zv_c2 v || (zv_c2 w || zv_c2 z) then leaf else go nx lv (v :: w :: z :: v :: r) ws) leaf
  | .dup2 => zv_s1v st (fun v r => bif zv_c2 v then go nx lv (v :: v :: r) ws else zv_s1v r (fun w r => bif zv_c2 w then leaf else go nx lv (v :: w :: v :: w :: r) ws) leaf) leaf
  | .dup2_x1 => zv_s2v st (fun v w r => bif zv_c2 v && !zv_c2 w then go nx lv (v :: w :: v :: r) ws else leaf) leaf
  | .dup2_x2 => zv_s3v st (fun v w z r => bif zv_c2 v && (!zv_c2 w && !zv_c2 z) then go nx lv (v :: w :: z :: v :: r) ws else leaf) leaf
  | .ifCond c off => zv_s1i st (fun x r => zv_cz c x (go ha lv r ws) (go nx lv r ws)) leaf
  | .if_icmp c off => zv_s2i st (fun x y r => zv_cc c x y (go ha lv r ws) (go nx lv r ws)) leaf
  | .goto off => go ha lv st ws
  | .getfield n => zv_s1r st (fun a r => zv_ob ws ha hq fk (fun a1 v => a = a1 ∧ go nx lv (v :: r) ws) leaf) leaf
  | .putfield n => zv_svr st (fun v a r => zv_pb ws ha hq fk kd v (fun a1 ws1 => a = a1 ∧ go nx lv r ws1) leaf) leaf
  | .iaload => zv_sir st (fun a i r => zv_ai ws ha (fun a1 cA n f => (a = a1 ∧ tys[hq]? = some (cA, .int)) ∧ vp_in i n ∧ go nx lv (.int (f i.toNatClampNeg) :: r) ws) leaf) leaf
  | .laload => zv_sir st (fun a i r => zv_al ws ha (fun a1 cA n f => (a = a1 ∧ tys[hq]? = some (cA, .long)) ∧ vp_in i n ∧ go nx lv (.long (f i.toNatClampNeg) :: r) ws) leaf) leaf
  | .iastore => zv_siir st (fun a i x r => zv_ai ws ha (fun a1 cA n f => (a = a1 ∧ tys[hq]? = some (cA, .int)) ∧ vp_in i n ∧ go nx lv r (ws.set ha (a1, .inl (cA, n, .inl (upd f i.toNatClampNeg x))))) leaf) leaf
  | .lastore => zv_slir st (fun a i x r => zv_al ws ha (fun a1 cA n f => (a = a1 ∧ tys[hq]? = some (cA, .long)) ∧ vp_in i n ∧ go nx lv r (ws.set ha (a1, .inl (cA, n, .inr (.inl (vp_updL f i.toNatClampNeg x)))))) leaf) leaf
  | .arraylength => zv_s1r st (fun a r => zv_an ws ha (fun a1 cA n => (a = a1 ∧ tys[hq]? = some (cA, zv_k2t kd)) ∧ go nx lv (.int (nI n) :: r) ws) leaf) leaf
  | .baload => zv_sir st (fun a i r => zv_ai ws ha (fun a1 cA n f => (a = a1 ∧ tys[hq]? = some (cA, zv_k2t kd)) ∧ vp_in i n ∧ go nx lv (.int (f i.toNatClampNeg) :: r) ws) leaf) leaf
  | .bastore => zv_siir st (fun a i x r => zv_ai ws ha (fun a1 cA n f => (a = a1 ∧ tys[hq]? = some (cA, zv_k2t kd)) ∧ vp_in i n ∧ go nx lv r (ws.set ha (a1, .inl (cA, n, .inl (upd f i.toNatClampNeg (vp_nar (zv_k2t kd) x)))))) leaf) leaf
  | _ => leaf
set_option maxHeartbeats 4000000 in
theorem zv_1_ok {x : zv_X} {l : Launch} {R : Room} {D : va_G} {cl : List vw_C} {tys : List (ClassId × FieldType)} {nL : Nat} {cc : ByteArray} {own : String} {Ts : List Jvm.Cond} (C : zv_C x (l, R, D, cl, tys, nL, cc, own, Ts)) {pc : Nat} {i : Jvm.ClassFile.Instr} {nx ha hq fk kd : Nat} {cv : Int32} {lc : Int64} {leaf : Prop} {go : Nat → zv_L → List Value → va_W → Prop} {lv : zv_L} {st : List Value} {ws : va_W} {ce sl : Nat}
    (hok : zv_sv i = true → decode cc pc = .ok (i, zv_ln i) ∧ nx = pc + zv_ln i ∧ zv_xt nL own Ts cl pc i (ha, hq, fk, kd, cv, lc) = true) (hgo : ∀ pc' lv' st' ws', go pc' lv' st' ws' → zv_V x (l, R, D, cl, tys, nL, cc, own, Ts) pc' lv' st' ws' ce sl)
    (hleaf : leaf → zv_V x (l, R, D, cl, tys, nL, cc, own, Ts) pc lv st ws ce sl) (hz : zv_1 tys i nx ha hq fk kd cv lc leaf go lv st ws) : zv_V x (l, R, D, cl, tys, nL, cc, own, Ts) pc lv st ws ce sl := by
  obtain ⟨p, e, s, m, args, below, meth, c, A, Q⟩ := x
  obtain ⟨hx, hb, hml, hown, hts, hK, hA, hE, hcl⟩ := C
  cases i with
  | iconst n =>
    have hok := hok rfl
    have z0 := hz
    clear hz
    dsimp only [zv_1] at z0
    obtain ⟨hd, rfl, hv⟩ := hok
    intro H locs ls hP hD hS hl
    exact lv_iconst hx hb hd (of_decide_eq_true hv) (hgo _ _ _ _ z0 H locs ls hP hD hS hl)
  | bipush n =>
    have hok := hok rfl
    have z0 := hz
    clear hz
    dsimp only [zv_1] at z0
    obtain ⟨hd, rfl, hv⟩ := hok
    intro H locs ls hP hD hS hl
    exact lv_bipush hx hb hd (of_decide_eq_true hv) (hgo _ _ _ _ z0 H locs ls hP hD hS hl)
  | sipush n =>
    have hok := hok rfl
    have z0 := hz
    clear hz
    dsimp only [zv_1] at z0
    obtain ⟨hd, rfl, hv⟩ := hok
    intro H locs ls hP hD hS hl
    exact lv_sipush hx hb hd (of_decide_eq_true hv) (hgo _ _ _ _ z0 H locs ls hP hD hS hl)
  | ldc n =>
    have hok := hok rfl
    have z0 := hz
    clear hz
    dsimp only [zv_1] at z0
    obtain ⟨hd, rfl, hv⟩ := hok
    intro H locs ls hP hD hS hl
    exact lv_ldc hx hb hown (hts _ (of_decide_eq_true hv)) hd (hgo _ _ _ _ z0 H locs ls hP hD hS hl)
  | ldc_w n =>
    have hok := hok rfl
    have z0 := hz
    clear hz
    dsimp only [zv_1] at z0
    obtain ⟨hd, rfl, hv⟩ := hok
    intro H locs ls hP hD hS hl
    exact lv_ldcw hx hb hown (hts _ (of_decide_eq_true hv)) hd (hgo _ _ _ _ z0 H locs ls hP hD hS hl)
  | lconst n =>
    have hok := hok rfl
    have z0 := hz
    clear hz
    dsimp only [zv_1] at z0
    obtain ⟨hd, rfl, hv⟩ := hok
    intro H locs ls hP hD hS hl
    exact lv_lconst hx hb hd (of_decide_eq_true hv) (hgo _ _ _ _ z0 H locs ls hP hD hS hl)
  | ldc2_w n =>
    have hok := hok rfl
    have z0 := hz
    clear hz
    dsimp only [zv_1] at z0
    obtain ⟨hd, rfl, hv⟩ := hok
    intro H locs ls hP hD hS hl
    exact lv_ldc2 hx hb hown (hts _ (of_decide_eq_true hv)) hd (hgo _ _ _ _ z0 H locs ls hP hD hS hl)
  | iload k =>
    have hok := hok rfl
    have z0 := hz
    clear hz
    dsimp only [zv_1] at z0
    obtain ⟨hd, rfl, -⟩ := hok
    refine zv_li_e z0 (fun x hm z1 => ?_) hleaf
    intro H locs ls hP hD hS hl
    exact lv_iload hx hb hd (hl.2.2 _ hm) (hgo _ _ _ _ z1 H locs ls hP hD hS hl)
  | iload_n k =>
    have hok := hok rfl
    have z0 := hz
    clear hz
    dsimp only [zv_1] at z0
    obtain ⟨hd, rfl, -⟩ := hok
    refine zv_li_e z0 (fun x hm z1 => ?_) hleaf
    intro H locs ls hP hD hS hl
    exact lv_iload_n hx hb hd rfl (hl.2.2 _ hm) (hgo _ _ _ _ z1 H locs ls hP hD hS hl)
  | lload k =>
    have hok := hok rfl
    have z0 := hz
    clear hz
    dsimp only [zv_1] at z0
    obtain ⟨hd, rfl, -⟩ := hok
    refine zv_ll_e z0 (fun x hm z1 => ?_) hleaf
    intro H locs ls hP hD hS hl
    exact lv_lload hx hb hd (hl.2.2 _ hm) (hgo _ _ _ _ z1 H locs ls hP hD hS hl)
  | lload_n k =>
    have hok := hok rfl
    have z0 := hz
    clear hz
    dsimp only [zv_1] at z0
    obtain ⟨hd, rfl, -⟩ := hok
    refine zv_ll_e z0 (fun x hm z1 => ?_) hleaf
    intro H locs ls hP hD hS hl
    exact lv_lload_n hx hb hd rfl (hl.2.2 _ hm) (hgo _ _ _ _ z1 H locs ls hP hD hS hl)
  | aload k =>
    have hok := hok rfl
    have z0 := hz
    clear hz
    dsimp only [zv_1] at z0
    obtain ⟨hd, rfl, -⟩ := hok
    refine zv_lr_e z0 (fun x hm z1 => ?_) hleaf
    intro H locs ls hP hD hS hl
    exact lv_aload hx hb hd (hl.2.2 _ hm) (hgo _ _ _ _ z1 H locs ls hP hD hS hl)
  | aload_n k =>
    have hok := hok rfl
    have z0 := hz
    clear hz
    dsimp only [zv_1] at z0
    obtain ⟨hd, rfl, -⟩ := hok
    refine zv_lr_e z0 (fun x hm z1 => ?_) hleaf
    intro H locs ls hP hD hS hl
    exact lv_aload_n hx hb hd rfl (hl.2.2 _ hm) (hgo _ _ _ _ z1 H locs ls hP hD hS hl)
  | istore k =>
    have hok := hok rfl
    have z0 := hz
    clear hz
    dsimp only [zv_1] at z0
    obtain ⟨hd, rfl, hv⟩ := hok
    refine zv_s1i_e z0 (fun x r e z1 => ?_) hleaf
    subst e
    intro H locs ls hP hD hS hl
    exact lv_istore hx hb hd hl (of_decide_eq_true hv) rfl (fun ls hl => hgo _ _ _ _ z1 H locs ls hP hD hS (zv_has1 hl))
  | istore_n k =>
    have hok := hok rfl
    have z0 := hz
    clear hz
    dsimp only [zv_1] at z0
    obtain ⟨hd, rfl, hv⟩ := hok
    refine zv_s1i_e z0 (fun x r e z1 => ?_) hleaf
    subst e
    intro H locs ls hP hD hS hl
    exact lv_istore_n hx hb hd rfl hl (of_decide_eq_true hv) rfl (fun ls hl => hgo _ _ _ _ z1 H locs ls hP hD hS (zv_has1 hl))
  | lstore k =>
    have hok := hok rfl
    have z0 := hz
    clear hz
    dsimp only [zv_1] at z0
    obtain ⟨hd, rfl, hv⟩ := hok
    refine zv_s1l_e z0 (fun x r e z1 => ?_) hleaf
    subst e
    intro H locs ls hP hD hS hl
    exact lv_lstore hx hb hd hl (of_decide_eq_true hv) rfl (fun ls hl => hgo _ _ _ _ z1 H locs ls hP hD hS (zv_has2 hl))
  | lstore_n k =>
    have hok := hok rfl
    have z0 := hz
    clear hz
    dsimp only [zv_1] at z0
    obtain ⟨hd, rfl, hv⟩ := hok
    refine zv_s1l_e z0 (fun x r e z1 => ?_) hleaf
    subst e
    intro H locs ls hP hD hS hl
    exact lv_lstore_n hx hb hd rfl hl (of_decide_eq_true hv) rfl (fun ls hl => hgo _ _ _ _ z1 H locs ls hP hD hS (zv_has2 hl))
  | astore k =>
    have hok := hok rfl
    have z0 := hz
    clear hz
    dsimp only [zv_1] at z0
    obtain ⟨hd, rfl, hv⟩ := hok
    refine zv_s1r_e z0 (fun x r e z1 => ?_) hleaf
    subst e
    intro H locs ls hP hD hS hl
    exact lv_astore hx hb hd hl (of_decide_eq_true hv) rfl (fun ls hl => hgo _ _ _ _ z1 H locs ls hP hD hS (zv_has1 hl))
  | astore_n k =>
    have hok := hok rfl
    have z0 := hz
    clear hz
    dsimp only [zv_1] at z0
    obtain ⟨hd, rfl, hv⟩ := hok
    refine zv_s1r_e z0 (fun x r e z1 => ?_) hleaf
    subst e
    intro H locs ls hP hD hS hl
    exact lv_astore_n hx hb hd rfl hl (of_decide_eq_true hv) rfl (fun ls hl => hgo _ _ _ _ z1 H locs ls hP hD hS (zv_has1 hl))
  | iinc k n =>
    have hok := hok rfl
    have z0 := hz
    clear hz
    dsimp only [zv_1] at z0
    obtain ⟨hd, rfl, hv⟩ := hok
    refine zv_li_e z0 (fun x hm z1 => ?_) hleaf
    obtain ⟨hv1, hv2⟩ := Bool.and_eq_true_iff.mp hv
    have hv := And.intro (of_decide_eq_true hv1) (of_decide_eq_true hv2)
    obtain ⟨i0, hi0⟩ := List.getElem?_of_mem hm
    intro H locs ls hP hD hS hl
    exact lv_iinc hx hb hd hl hi0 (by rw [hv.1]) hv.2 rfl (fun ls hl => hgo _ _ _ _ z1 H locs ls hP hD hS (zv_has1 hl))
  | iadd =>
    have hok := hok rfl
    have z0 := hz
    clear hz
    dsimp only [zv_1] at z0
    obtain ⟨hd, rfl, -⟩ := hok
    refine zv_s2i_e z0 (fun x y r e z1 => ?_) hleaf
    subst e
    intro H locs ls hP hD hS hl
    exact lv_iadd hx hb hd (hgo _ _ _ _ z1 H locs ls hP hD hS hl)
  | isub =>
    have hok := hok rfl
    have z0 := hz
    clear hz
    dsimp only [zv_1] at z0
    obtain ⟨hd, rfl, -⟩ := hok
    refine zv_s2i_e z0 (fun x y r e z1 => ?_) hleaf
    subst e
    intro H locs ls hP hD hS hl
    exact lv_isub hx hb hd (hgo _ _ _ _ z1 H locs ls hP hD hS hl)
  | imul =>
    have hok := hok rfl
    have z0 := hz
    clear hz
    dsimp only [zv_1] at z0
    obtain ⟨hd, rfl, -⟩ := hok
    refine zv_s2i_e z0 (fun x y r e z1 => ?_) hleaf
    subst e
    intro H locs ls hP hD hS hl
    exact lv_imul hx hb hd (hgo _ _ _ _ z1 H locs ls hP hD hS hl)
  | iand =>
    have hok := hok rfl
    have z0 := hz
    clear hz
    dsimp only [zv_1] at z0
    obtain ⟨hd, rfl, -⟩ := hok
    refine zv_s2i_e z0 (fun x y r e z1 => ?_) hleaf
    subst e
    intro H locs ls hP hD hS hl
    exact lv_iand hx hb hd (hgo _ _ _ _ z1 H locs ls hP hD hS hl)
  | ior =>
    have hok := hok rfl
    have z0 := hz
    clear hz
    dsimp only [zv_1] at z0
    obtain ⟨hd, rfl, -⟩ := hok
    refine zv_s2i_e z0 (fun x y r e z1 => ?_) hleaf
    subst e
    intro H locs ls hP hD hS hl
    exact lv_ior hx hb hd (hgo _ _ _ _ z1 H locs ls hP hD hS hl)
  | ixor =>
    have hok := hok rfl
    have z0 := hz
    clear hz
    dsimp only [zv_1] at z0
    obtain ⟨hd, rfl, -⟩ := hok
    refine zv_s2i_e z0 (fun x y r e z1 => ?_) hleaf
    subst e
    intro H locs ls hP hD hS hl
    exact lv_ixor hx hb hd (hgo _ _ _ _ z1 H locs ls hP hD hS hl)
  | ishl =>
    have hok := hok rfl
    have z0 := hz
    clear hz
    dsimp only [zv_1] at z0
    obtain ⟨hd, rfl, -⟩ := hok
    refine zv_s2i_e z0 (fun x y r e z1 => ?_) hleaf
    subst e
    intro H locs ls hP hD hS hl
    exact lv_ishl hx hb hd (hgo _ _ _ _ z1 H locs ls hP hD hS hl)
  | ishr =>
    have hok := hok rfl
    have z0 := hz
    clear hz
    dsimp only [zv_1] at z0
    obtain ⟨hd, rfl, -⟩ := hok
    refine zv_s2i_e z0 (fun x y r e z1 => ?_) hleaf
    subst e
    intro H locs ls hP hD hS hl
    exact lv_ishr hx hb hd (hgo _ _ _ _ z1 H locs ls hP hD hS hl)
  | idiv =>
    have hok := hok rfl
    have z0 := hz
    clear hz
    dsimp only [zv_1] at z0
    obtain ⟨hd, rfl, -⟩ := hok
    refine zv_s2i_e z0 (fun x y r e z1 => ?_) hleaf
    subst e
    intro H locs ls hP hD hS hl
    exact lv_idiv hx hb hd z1.1 (hgo _ _ _ _ z1.2 H locs ls hP hD hS hl)
  | irem =>
    have hok := hok rfl
    have z0 := hz
    clear hz
    dsimp only [zv_1] at z0
    obtain ⟨hd, rfl, -⟩ := hok
    refine zv_s2i_e z0 (fun x y r e z1 => ?_) hleaf
    subst e
    intro H locs ls hP hD hS hl
    exact lv_irem hx hb hd z1.1 (hgo _ _ _ _ z1.2 H locs ls hP hD hS hl)
  | ladd =>
    have hok := hok rfl
    have z0 := hz
    clear hz
    dsimp only [zv_1] at z0
    obtain ⟨hd, rfl, -⟩ := hok
    refine zv_s2l_e z0 (fun x y r e z1 => ?_) hleaf
    subst e
    intro H locs ls hP hD hS hl
    exact lv_ladd hx hb hd (hgo _ _ _ _ z1 H locs ls hP hD hS hl)
  | lsub =>
    have hok := hok rfl
    have z0 := hz
    clear hz
    dsimp only [zv_1] at z0
    obtain ⟨hd, rfl, -⟩ := hok
    refine zv_s2l_e z0 (fun x y r e z1 => ?_) hleaf
    subst e
    intro H locs ls hP hD hS hl
    exact lv_lsub hx hb hd (hgo _ _ _ _ z1 H locs ls hP hD hS hl)
  | lmul =>
    have hok := hok rfl
    have z0 := hz
    clear hz
    dsimp only [zv_1] at z0
    obtain ⟨hd, rfl, -⟩ := hok
    refine zv_s2l_e z0 (fun x y r e z1 => ?_) hleaf
    subst e
    intro H locs ls hP hD hS hl
    exact lv_lmul hx hb hd (hgo _ _ _ _ z1 H locs ls hP hD hS hl)
  | land =>
    have hok := hok rfl
    have z0 := hz
    clear hz
    dsimp only [zv_1] at z0
    obtain ⟨hd, rfl, -⟩ := hok
    refine zv_s2l_e z0 (fun x y r e z1 => ?_) hleaf
    subst e
    intro H locs ls hP hD hS hl
    exact lv_land hx hb hd (hgo _ _ _ _ z1 H locs ls hP hD hS hl)
  | lor =>
    have hok := hok rfl
    have z0 := hz
    clear hz
    dsimp only [zv_1] at z0
    obtain ⟨hd, rfl, -⟩ := hok
    refine zv_s2l_e z0 (fun x y r e z1 => ?_) hleaf
    subst e
    intro H locs ls hP hD hS hl
    exact lv_lor hx hb hd (hgo _ _ _ _ z1 H locs ls hP hD hS hl)
  | lxor =>
    have hok := hok rfl
    have z0 := hz
    clear hz
    dsimp only [zv_1] at z0
    obtain ⟨hd, rfl, -⟩ := hok
    refine zv_s2l_e z0 (fun x y r e z1 => ?_) hleaf
    subst e
    intro H locs ls hP hD hS hl
    exact lv_lxor hx hb hd (hgo _ _ _ _ z1 H locs ls hP hD hS hl)
  | ldiv =>
    have hok := hok rfl
    have z0 := hz
    clear hz
    dsimp only [zv_1] at z0
    obtain ⟨hd, rfl, -⟩ := hok
    refine zv_s2l_e z0 (fun x y r e z1 => ?_) hleaf
    subst e
    intro H locs ls hP hD hS hl
    exact lv_ldiv hx hb hd z1.1 (hgo _ _ _ _ z1.2 H locs ls hP hD hS hl)
  | lrem =>
    have hok := hok rfl
    have z0 := hz
    clear hz
    dsimp only [zv_1] at z0
    obtain ⟨hd, rfl, -⟩ := hok
    refine zv_s2l_e z0 (fun x y r e z1 => ?_) hleaf
    subst e
    intro H locs ls hP hD hS hl
    exact lv_lrem hx hb hd z1.1 (hgo _ _ _ _ z1.2 H locs ls hP hD hS hl)
  | lcmp =>
    have hok := hok rfl
    have z0 := hz
    clear hz
    dsimp only [zv_1] at z0
    obtain ⟨hd, rfl, -⟩ := hok
    refine zv_s2l_e z0 (fun x y r e z1 => ?_) hleaf
    subst e
    intro H locs ls hP hD hS hl
    exact W.lcmp hx hb hd (hgo _ _ _ _ z1 H locs ls hP hD hS hl)
  | ineg =>
    have hok := hok rfl
    have z0 := hz
    clear hz
    dsimp only [zv_1] at z0
    obtain ⟨hd, rfl, -⟩ := hok
    refine zv_s1i_e z0 (fun x r e z1 => ?_) hleaf
    subst e
    intro H locs ls hP hD hS hl
    exact lv_ineg hx hb hd (hgo _ _ _ _ z1 H locs ls hP hD hS hl)
  | lneg =>
    have hok := hok rfl
    have z0 := hz
    clear hz
    dsimp only [zv_1] at z0
    obtain ⟨hd, rfl, -⟩ := hok
    refine zv_s1l_e z0 (fun x r e z1 => ?_) hleaf
    subst e
    intro H locs ls hP hD hS hl
    exact lv_lneg hx hb hd (hgo _ _ _ _ z1 H locs ls hP hD hS hl)
  | i2l =>
    have hok := hok rfl
    have z0 := hz
    clear hz
    dsimp only [zv_1] at z0
    obtain ⟨hd, rfl, -⟩ := hok
    refine zv_s1i_e z0 (fun x r e z1 => ?_) hleaf
    subst e
    intro H locs ls hP hD hS hl
    exact lv_i2l hx hb hd rfl (hgo _ _ _ _ z1 H locs ls hP hD hS hl)
  | l2i =>
    have hok := hok rfl
    have z0 := hz
    clear hz
    dsimp only [zv_1] at z0
    obtain ⟨hd, rfl, -⟩ := hok
    refine zv_s1l_e z0 (fun x r e z1 => ?_) hleaf
    subst e
    intro H locs ls hP hD hS hl
    exact lv_l2i hx hb hd rfl (hgo _ _ _ _ z1 H locs ls hP hD hS hl)
  | i2b =>
    have hok := hok rfl
    have z0 := hz
    clear hz
    dsimp only [zv_1] at z0
    obtain ⟨hd, rfl, -⟩ := hok
    refine zv_s1i_e z0 (fun x r e z1 => ?_) hleaf
    subst e
    intro H locs ls hP hD hS hl
    exact lv_i2b hx hb hd rfl (hgo _ _ _ _ z1 H locs ls hP hD hS hl)
  | i2s =>
    have hok := hok rfl
    have z0 := hz
    clear hz
    dsimp only [zv_1] at z0
    obtain ⟨hd, rfl, -⟩ := hok
    refine zv_s1i_e z0 (fun x r e z1 => ?_) hleaf
    subst e
    intro H locs ls hP hD hS hl
    exact lv_i2s hx hb hd rfl (hgo _ _ _ _ z1 H locs ls hP hD hS hl)
  | i2c =>
    have hok := hok rfl
    have z0 := hz
    clear hz
    dsimp only [zv_1] at z0
    obtain ⟨hd, rfl, -⟩ := hok
    refine zv_s1i_e z0 (fun x r e z1 => ?_) hleaf
    subst e
    intro H locs ls hP hD hS hl
    exact lv_i2c hx hb hd rfl (hgo _ _ _ _ z1 H locs ls hP hD hS hl)
  | iushr =>
    have hok := hok rfl
    have z0 := hz
    clear hz
    dsimp only [zv_1] at z0
    obtain ⟨hd, rfl, -⟩ := hok
    refine zv_s2i_e z0 (fun x y r e z1 => ?_) hleaf
    subst e
    intro H locs ls hP hD hS hl
    exact lv_iushr hx hb hd rfl (hgo _ _ _ _ z1 H locs ls hP hD hS hl)
  | lushr =>
    have hok := hok rfl
    have z0 := hz
    clear hz
    dsimp only [zv_1] at z0
    obtain ⟨hd, rfl, -⟩ := hok
    refine zv_sli_e z0 (fun x y r e z1 => ?_) hleaf
    subst e
    intro H locs ls hP hD hS hl
    exact lv_lushr hx hb hd rfl (hgo _ _ _ _ z1 H locs ls hP hD hS hl)
  | lshl =>
    have hok := hok rfl
    have z0 := hz
    clear hz
    dsimp only [zv_1] at z0
    obtain ⟨hd, rfl, -⟩ := hok
    refine zv_sli_e z0 (fun x y r e z1 => ?_) hleaf
    subst e
    intro H locs ls hP hD hS hl
    exact lv_lshl hx hb hd rfl (hgo _ _ _ _ z1 H locs ls hP hD hS hl)
  | lshr =>
    have hok := hok rfl
    have z0 := hz
    clear hz
    dsimp only [zv_1] at z0
    obtain ⟨hd, rfl, -⟩ := hok
    refine zv_sli_e z0 (fun x y r e z1 => ?_) hleaf
    subst e
    intro H locs ls hP hD hS hl
    exact lv_lshr hx hb hd rfl (hgo _ _ _ _ z1 H locs ls hP hD hS hl)
  | dup =>
    have hok := hok rfl
    have z0 := hz
    clear hz
    dsimp only [zv_1] at z0
    obtain ⟨hd, rfl, -⟩ := hok
    refine zv_s1v_e z0 (fun v r e z1 => ?_) hleaf
    cases hv : zv_c2 v with
    | true => rw [hv] at z1; exact hleaf z1
    | false =>
      rw [hv] at z1
      subst e
      intro H locs ls hP hD hS hl
      exact lv_dup hx hb hd (zv_c1_eq hv) (hgo _ _ _ _ z1 H locs ls hP hD hS hl)
  | pop =>
    have hok := hok rfl
    have z0 := hz
    clear hz
    dsimp only [zv_1] at z0
    obtain ⟨hd, rfl, -⟩ := hok
    refine zv_s1v_e z0 (fun v r e z1 => ?_) hleaf
    cases hv : zv_c2 v with
    | true => rw [hv] at z1; exact hleaf z1
    | false =>
      rw [hv] at z1
      subst e
      intro H locs ls hP hD hS hl
      exact lv_pop hx hb hd (zv_c1_eq hv) (hgo _ _ _ _ z1 H locs ls hP hD hS hl)
  | dup_x1 =>
    have hok := hok rfl
    have z0 := hz
    clear hz
    dsimp only [zv_1] at z0
    obtain ⟨hd, rfl, -⟩ := hok
    refine zv_s2v_e z0 (fun v w r e z1 => ?_) hleaf
    cases hv : (zv_c2 v || zv_c2 w) with
    | true => rw [hv] at z1; exact hleaf z1
    | false =>
      rw [hv] at z1
      rw [Bool.or_eq_false_iff] at hv
      subst e
      intro H locs ls hP hD hS hl
      exact lv_dup_x1 hx hb hd (zv_c1_eq hv.1) (zv_c1_eq hv.2) (hgo _ _ _ _ z1 H locs ls hP hD hS hl)
  | dup_x2 =>
    have hok := hok rfl
    have z0 := hz
    clear hz
    dsimp only [zv_1] at z0
    obtain ⟨hd, rfl, -⟩ := hok
    refine zv_s3v_e z0 (fun v w z r e z1 => ?_) hleaf
    cases hv : (zv_c2 v || (zv_c2 w || zv_c2 z)) with
    | true => rw [hv] at z1; exact hleaf z1
    | false =>
      rw [hv] at z1
      rw [Bool.or_eq_false_iff, Bool.or_eq_false_iff] at hv
      subst e
      intro H locs ls hP hD hS hl
      exact lv_dup_x2 hx hb hd (zv_c1_eq hv.1) (zv_c1_eq hv.2.1) (zv_c1_eq hv.2.2) (hgo _ _ _ _ z1 H locs ls hP hD hS hl)
  | dup2 =>
    have hok := hok rfl
    have z0 := hz
    clear hz
    dsimp only [zv_1] at z0
    obtain ⟨hd, rfl, -⟩ := hok
    refine zv_s1v_e z0 (fun v r e z1 => ?_) hleaf
    cases hv : zv_c2 v with
    | true =>
      rw [hv] at z1
      subst e
      intro H locs ls hP hD hS hl
      exact lv_dup2_2 hx hb hd (zv_c2_of hv) (hgo _ _ _ _ z1 H locs ls hP hD hS hl)
    | false =>
      rw [hv] at z1
      refine zv_s1v_e z1 (fun w r2 e2 z2 => ?_) hleaf
      cases hw : zv_c2 w with
      | true => rw [hw] at z2; exact hleaf z2
      | false =>
        rw [hw] at z2
        subst e2
        subst e
        intro H locs ls hP hD hS hl
        exact lv_dup2_11 hx hb hd (zv_c1_eq hv) (zv_c1_eq hw) (hgo _ _ _ _ z2 H locs ls hP hD hS hl)
  | dup2_x1 =>
    have hok := hok rfl
    have z0 := hz
    clear hz
    dsimp only [zv_1] at z0
    obtain ⟨hd, rfl, -⟩ := hok
    refine zv_s2v_e z0 (fun v w r e z1 => ?_) hleaf
    cases hv : (zv_c2 v && !zv_c2 w) with
    | false => rw [hv] at z1; exact hleaf z1
    | true =>
      rw [hv] at z1
      simp only [Bool.and_eq_true, Bool.not_eq_true'] at hv
      subst e
      intro H locs ls hP hD hS hl
      exact lv_dup2_x1_2 hx hb hd (zv_c2_of hv.1) (zv_c1_eq hv.2) (hgo _ _ _ _ z1 H locs ls hP hD hS hl)
  | dup2_x2 =>
    have hok := hok rfl
    have z0 := hz
    clear hz
    dsimp only [zv_1] at z0
    obtain ⟨hd, rfl, -⟩ := hok
    refine zv_s3v_e z0 (fun v w z r e z1 => ?_) hleaf
    cases hv : (zv_c2 v && (!zv_c2 w && !zv_c2 z)) with
    | false => rw [hv] at z1; exact hleaf z1
    | true =>
      rw [hv] at z1
      simp only [Bool.and_eq_true, Bool.not_eq_true'] at hv
      subst e
      intro H locs ls hP hD hS hl
      exact lv_dup2_x2_2 hx hb hd (zv_c2_of hv.1) (zv_c1_eq hv.2.1) (zv_c1_eq hv.2.2) (hgo _ _ _ _ z1 H locs ls hP hD hS hl)
  | ifCond c off =>
    have hok := hok rfl
    have z0 := hz
    clear hz
    dsimp only [zv_1] at z0
    obtain ⟨hd, rfl, hv⟩ := hok
    refine zv_s1i_e z0 (fun x r e z1 => ?_) hleaf
    have hv2 : (pc : Int) + off = (ha : Int) := of_decide_eq_true hv
    subst e
    intro H locs ls hP hD hS hl
    cases c with
    | eq => exact lv_if_eq hx hb hd hv2 (fun q => hgo _ _ _ _ (z1.1 q) H locs ls hP hD hS hl) (fun q => hgo _ _ _ _ (z1.2 q) H locs ls hP hD hS hl)
    | ne => exact lv_if_ne hx hb hd hv2 (fun q => hgo _ _ _ _ (z1.1 q) H locs ls hP hD hS hl) (fun q => hgo _ _ _ _ (z1.2 q) H locs ls hP hD hS hl)
    | lt => exact lv_if_lt hx hb hd hv2 (fun q => hgo _ _ _ _ (z1.1 q) H locs ls hP hD hS hl) (fun q => hgo _ _ _ _ (z1.2 q) H locs ls hP hD hS hl)
    | ge => exact lv_if_ge hx hb hd hv2 (fun q => hgo _ _ _ _ (z1.1 q) H locs ls hP hD hS hl) (fun q => hgo _ _ _ _ (z1.2 q) H locs ls hP hD hS hl)
    | gt => exact lv_if_gt hx hb hd hv2 (fun q => hgo _ _ _ _ (z1.1 q) H locs ls hP hD hS hl) (fun q => hgo _ _ _ _ (z1.2 q) H locs ls hP hD hS hl)
    | le => exact lv_if_le hx hb hd hv2 (fun q => hgo _ _ _ _ (z1.1 q) H locs ls hP hD hS hl) (fun q => hgo _ _ _ _ (z1.2 q) H locs ls hP hD hS hl)
  | if_icmp c off =>
    have hok := hok rfl
    have z0 := hz
    clear hz
    dsimp only [zv_1] at z0
    obtain ⟨hd, rfl, hv⟩ := hok
    refine zv_s2i_e z0 (fun x y r e z1 => ?_) hleaf
    have hv2 : (pc : Int) + off = (ha : Int) := of_decide_eq_true hv
    subst e
    intro H locs ls hP hD hS hl
    cases c with
    | eq => exact lv_icmp_eq hx hb hd hv2 (fun q => hgo _ _ _ _ (z1.1 q) H locs ls hP hD hS hl) (fun q => hgo _ _ _ _ (z1.2 q) H locs ls hP hD hS hl)
    | ne => exact lv_icmp_ne hx hb hd hv2 (fun q => hgo _ _ _ _ (z1.1 q) H locs ls hP hD hS hl) (fun q => hgo _ _ _ _ (z1.2 q) H locs ls hP hD hS hl)
    | lt => exact lv_icmp_lt hx hb hd hv2 (fun q => hgo _ _ _ _ (z1.1 q) H locs ls hP hD hS hl) (fun q => hgo _ _ _ _ (z1.2 q) H locs ls hP hD hS hl)
    | ge => exact lv_icmp_ge hx hb hd hv2 (fun q => hgo _ _ _ _ (z1.1 q) H locs ls hP hD hS hl) (fun q => hgo _ _ _ _ (z1.2 q) H locs ls hP hD hS hl)
    | gt => exact lv_icmp_gt hx hb hd hv2 (fun q => hgo _ _ _ _ (z1.1 q) H locs ls hP hD hS hl) (fun q => hgo _ _ _ _ (z1.2 q) H locs ls hP hD hS hl)
    | le => exact lv_icmp_le hx hb hd hv2 (fun q => hgo _ _ _ _ (z1.1 q) H locs ls hP hD hS hl) (fun q => hgo _ _ _ _ (z1.2 q) H locs ls hP hD hS hl)
  | goto off =>
    have hok := hok rfl
    have z0 := hz
    clear hz
    dsimp only [zv_1] at z0
    obtain ⟨hd, rfl, hv⟩ := hok
    intro H locs ls hP hD hS hl
    exact lv_goto hx hb hd (of_decide_eq_true hv) (hgo _ _ _ _ z0 H locs ls hP hD hS hl)
  | getfield n =>
    have hok := hok rfl
    have z0 := hz
    clear hz
    dsimp only [zv_1] at z0
    obtain ⟨hd, rfl, hv⟩ := hok
    refine zv_s1r_e z0 (fun a r e z1 => ?_) hleaf
    refine zv_ob_e z1 (fun a1 fs v hw hf z2 => ?_) hleaf
    obtain ⟨C, T, N, hc, hk, hlk⟩ := zv_fld_e hv
    obtain ⟨hin, -, -⟩ := zv_cl_e hcl hc
    obtain ⟨hz1, z2⟩ := z2
    subst hz1
    subst e
    intro H locs ls hP hD hS hl
    exact va_get hx hb hts hin hown hK hP ha hw hc fk hk (hts _ hlk) (fun _ h9 => h9) hf hd (hgo _ _ _ _ z2 H locs ls hP hD hS hl)
  | putfield n =>
    have hok := hok rfl
    have z0 := hz
    clear hz
    dsimp only [zv_1] at z0
    obtain ⟨hd, rfl, hv⟩ := hok
    refine zv_svr_e z0 (fun v a r e z1 => ?_) hleaf
    refine zv_pb_e z1 (fun a1 fs hw hl1 hkd z2 => ?_) hleaf
    have hv := Bool.and_eq_true_iff.mp hv
    obtain ⟨C, T, N, hc, hk, hlk⟩ := zv_fld_e hv.1
    obtain ⟨hin, hty0, hnm⟩ := zv_cl_e hcl hc
    have hv2 := Bool.and_eq_true_iff.mp hv.2
    obtain ⟨ty, hty, hn, hfit⟩ := zv_fit_e hc hv2.1 hkd
    have hfin := zv_fin_e hc hv2.2
    obtain ⟨hz1, z2⟩ := z2
    subst hz1
    subst e
    intro H locs ls hP hD hS hl
    exact va_put hx hb hts hin (zv_ty T) hty0 hnm hown hK hP hD hS ha hw hc fk hk (hts _ hlk) (fun _ h9 => h9) hfin hty hn hfit hl1 hd (fun H locs hP hD hS => hgo _ _ _ _ z2 H locs ls hP hD hS hl)
  | iaload =>
    have hok := hok rfl
    have z0 := hz
    clear hz
    dsimp only [zv_1] at z0
    obtain ⟨hd, rfl, -⟩ := hok
    refine zv_sir_e z0 (fun a i r e z1 => ?_) hleaf
    refine zv_ai_e z1 (fun a1 cA n f hw z2 => ?_) hleaf
    obtain ⟨⟨hz1, ht⟩, hin, z2⟩ := z2
    subst hz1
    subst e
    intro H locs ls hP hD hS hl
    exact va_iald hx hb hK hP ha hq hw ht hin hd (hgo _ _ _ _ z2 H locs ls hP hD hS hl)
  | laload =>
    have hok := hok rfl
    have z0 := hz
    clear hz
    dsimp only [zv_1] at z0
    obtain ⟨hd, rfl, -⟩ := hok
    refine zv_sir_e z0 (fun a i r e z1 => ?_) hleaf
    refine zv_al_e z1 (fun a1 cA n f hw z2 => ?_) hleaf
    obtain ⟨⟨hz1, ht⟩, hin, z2⟩ := z2
    subst hz1
    subst e
    intro H locs ls hP hD hS hl
    exact va_lald hx hb hK hP ha hq hw ht hin hd (hgo _ _ _ _ z2 H locs ls hP hD hS hl)
  | iastore =>
    have hok := hok rfl
    have z0 := hz
    clear hz
    dsimp only [zv_1] at z0
    obtain ⟨hd, rfl, -⟩ := hok
    refine zv_siir_e z0 (fun a i x r e z1 => ?_) hleaf
    refine zv_ai_e z1 (fun a1 cA n f hw z2 => ?_) hleaf
    obtain ⟨⟨hz1, ht⟩, hin, z2⟩ := z2
    subst hz1
    subst e
    intro H locs ls hP hD hS hl
    exact va_iast hx hb hK hP hD hS ha hq hw ht hin hd (fun H locs hP hD hS => hgo _ _ _ _ z2 H locs ls hP hD hS hl)
  | lastore =>
    have hok := hok rfl
    have z0 := hz
    clear hz
    dsimp only [zv_1] at z0
    obtain ⟨hd, rfl, -⟩ := hok
    refine zv_slir_e z0 (fun a i x r e z1 => ?_) hleaf
    refine zv_al_e z1 (fun a1 cA n f hw z2 => ?_) hleaf
    obtain ⟨⟨hz1, ht⟩, hin, z2⟩ := z2
    subst hz1
    subst e
    intro H locs ls hP hD hS hl
    exact va_last hx hb hK hP hD hS ha hq hw ht hin hd (fun H locs hP hD hS => hgo _ _ _ _ z2 H locs ls hP hD hS hl)
  | arraylength =>
    have hok := hok rfl
    have z0 := hz
    clear hz
    dsimp only [zv_1] at z0
    obtain ⟨hd, rfl, -⟩ := hok
    refine zv_s1r_e z0 (fun a r e z1 => ?_) hleaf
    refine zv_an_e z1 (fun a1 cA n y hw z2 => ?_) hleaf
    obtain ⟨⟨hz1, ht⟩, z2⟩ := z2
    subst hz1
    subst e
    intro H locs ls hP hD hS hl
    exact va_alen hx hb hK hP ha hq hw ht rfl hd (hgo _ _ _ _ z2 H locs ls hP hD hS hl)
  | baload =>
    have hok := hok rfl
    have z0 := hz
    clear hz
    dsimp only [zv_1] at z0
    obtain ⟨hd, rfl, hv⟩ := hok
    refine zv_sir_e z0 (fun a i r e z1 => ?_) hleaf
    refine zv_ai_e z1 (fun a1 cA n f hw z2 => ?_) hleaf
    obtain ⟨⟨hz1, ht⟩, hin, z2⟩ := z2
    subst hz1
    subst e
    intro H locs ls hP hD hS hl
    rcases Bool.or_eq_true_iff.mp hv with h2 | h2
    · have e3 : kd = _ := Nat.eq_of_beq_eq_true h2
      rw [e3] at ht
      exact va_bald hx hb hK hP ha hq hw ht hin hd (hgo _ _ _ _ z2 H locs ls hP hD hS hl)
    · have e3 : kd = _ := Nat.eq_of_beq_eq_true h2
      rw [e3] at ht
      exact va_zald hx hb hK hP ha hq hw ht hin hd (hgo _ _ _ _ z2 H locs ls hP hD hS hl)
  | bastore =>
    have hok := hok rfl
    have z0 := hz
    clear hz
    dsimp only [zv_1] at z0
    obtain ⟨hd, rfl, hv⟩ := hok
    refine zv_siir_e z0 (fun a i x r e z1 => ?_) hleaf
    refine zv_ai_e z1 (fun a1 cA n f hw z2 => ?_) hleaf
    obtain ⟨⟨hz1, ht⟩, hin, z2⟩ := z2
    subst hz1
    subst e
    intro H locs ls hP hD hS hl
    rcases Bool.or_eq_true_iff.mp hv with h2 | h2
    · have e3 : kd = _ := Nat.eq_of_beq_eq_true h2
      rw [e3] at ht
      rw [e3] at z2
      exact va_bast hx hb hK hP hD hS ha hq hw ht hin hd (fun H locs hP hD hS => hgo _ _ _ _ z2 H locs ls hP hD hS hl)
    · have e3 : kd = _ := Nat.eq_of_beq_eq_true h2
      rw [e3] at ht
      rw [e3] at z2
      exact va_zast hx hb hK hP hD hS ha hq hw ht hin hd (fun H locs hP hD hS => hgo _ _ _ _ z2 H locs ls hP hD hS hl)
  | _ => exact hleaf hz
def zv_ev (x : zv_X) (g : zv_G) (tb : List zv_I) (sp : List Nat) : Nat → Nat → zv_L → List Value → va_W → Nat → Nat → Prop
  | 0, pc, lv, st, ws, ce, sl => zv_V x g pc lv st ws ce sl
  | n + 1, pc, lv, st, ws, ce, sl => match zv_find tb pc with
    | none => zv_V x g pc lv st ws ce sl
    | some (i, nx, ha, hq, fk, kd, cv, lc) => zv_1 g.2.2.2.2.1 i nx ha hq fk kd cv lc (zv_V x g pc lv st ws ce sl) (fun pc' lv' st' ws' => bif sp.contains pc' then zv_V x g pc' lv' st' ws' ce sl else zv_ev x g tb sp n pc' lv' st' ws' ce sl) lv st ws
theorem zv_go {x : zv_X} {l : Launch} {R : Room} {D : va_G} {cl : List vw_C} {tys : List (ClassId × FieldType)} {nL : Nat} {cc : ByteArray} {own : String} {Ts : List Jvm.Cond} (C : zv_C x (l, R, D, cl, tys, nL, cc, own, Ts)) {tb : List zv_I} (hok : zv_ok nL cc own Ts cl tb = true) (sp : List Nat) : ∀ (n : Nat) {pc : Nat} {lv : zv_L} {st : List Value} {ws : va_W} {ce sl : Nat}, zv_ev x (l, R, D, cl, tys, nL, cc, own, Ts) tb sp n pc lv st ws ce sl → zv_V x (l, R, D, cl, tys, nL, cc, own, Ts) pc lv st ws ce sl := by
  intro n
  induction n with
  | zero => intro pc lv st ws ce sl h; exact h
  | succ n ih =>
    intro pc lv st ws ce sl h
    unfold zv_ev at h
    split at h
    · exact h
    · rename_i i nx ha hq fk kd cv lc hf
      refine zv_1_ok C (fun hs => zv_ok_e hok (zv_find_mem _ _ _ hf) hs) (fun pc' lv' st' ws' hg => ?_) (fun hl => hl) h
      cases hb : sp.contains pc' with
      | true => rw [hb] at hg; exact hg
      | false => rw [hb] at hg; exact ih hg

