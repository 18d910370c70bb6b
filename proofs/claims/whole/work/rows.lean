section
/-! THE WALKING LAYER. zv_V: the machine at pc with locals lv, stack st, world ws comes to its end. zv_ev: what zv_V at a pc comes down to, instruction by instruction, until a leaf (a call, a return, a stop). -/
abbrev zv_H : Type := Nat × Nat × Nat × Nat × Int32 × Int64
abbrev zv_I : Type := Nat × Jvm.ClassFile.Instr × Nat × zv_H
abbrev zv_L : Type := List (Nat × Value)
abbrev zv_X : Type := Program × Env × State × MethodId × Array Value × List Frame × Method × Code × (Nat → Prop) × (State → Prop)
abbrev zv_G : Type := Launch × Room × va_G × List vw_C × List (ClassId × FieldType) × Nat × ByteArray × String × List Jvm.Cond
def zv_V (x : zv_X) (g : zv_G) (pc : Nat) (lv : zv_L) (st : List Value) (ws : va_W) (ce sl : Nat) : Prop := match x, g with
  | (p, e, s, m, args, below, meth, c, A, Q), (l, R, D, cl, _, nL, _, _, _) => ∀ (H : Heap) (locs : List Loc) (ls : Array Slot), va_P D cl ws H → va_D A ws → va_S A s.heap H locs → lv_has ls nL lv → W p l e R s m args below meth c H locs ce sl Q (F0 m pc ls st)
/-- the links to private members of nest mates -/
def zv_nl : List (String × Nat × MethodName × String) := [("OrderDesk", 9, ⟨"OrderDesk$Order", "<init>", "()V"⟩, "OrderDesk"), ("OrderDesk", 60, ⟨"OrderDesk$MuRow", "<init>", "()V"⟩, "OrderDesk"), ("OrderDesk$MuRow", 29, ⟨"OrderDesk", "isPart", "(II)Z"⟩, "OrderDesk")]
def zv_E (U : State) : Prop := ∀ q ∈ zv_nl, va_Nw (.methodLinkNest q.1 q.2.1 q.2.2.1 q.2.2.2) U
/-- the classes' tables are among the words; each field has a type, no two have one name -/
def zv_cl (cl : List vw_C) (Ts : List Jvm.Cond) : Bool := cl.all (fun q => (u_ws q.1 q.2.1 q.2.2).all (fun w => decide (w ∈ Ts)) && (List.range q.2.2).all (fun a => (parseFieldDescriptor (q.2.1 a).2.2.1).isSome && (List.range q.2.2).all (fun b => decide (a = b) || !decide ((q.2.1 a).2.1 = (q.2.1 b).2.1))))
def zv_ty (T : u_T) : Nat → FieldType := fun k => (parseFieldDescriptor (T k).2.2.1).getD .int
theorem zv_cl_e {cl : List vw_C} {Ts : List Jvm.Cond} (h : zv_cl cl Ts = true) {ci : Nat} {C : String} {T : u_T} {N : Nat} (hc : cl[ci]? = some (C, T, N)) : (∀ w ∈ u_ws C T N, w ∈ Ts) ∧ (∀ k, k < N → parseFieldDescriptor (T k).2.2.1 = some (zv_ty T k)) ∧ (∀ a, a < N → ∀ b, b < N → a ≠ b → (T a).2.1 ≠ (T b).2.1) := by
  have h1 := List.all_eq_true.mp h _ (List.mem_of_getElem? hc)
  simp only [Bool.and_eq_true, List.all_eq_true, List.mem_range, Bool.not_eq_true', Bool.or_eq_true, decide_eq_true_eq, decide_eq_false_iff_not] at h1
  obtain ⟨h1, h2⟩ := h1
  refine ⟨h1, fun k hk => ?_, fun a ha b hb hab => ?_⟩
  · have h4 := (h2 k hk).1
    unfold zv_ty
    cases hp : parseFieldDescriptor (T k).2.2.1 with
    | none => rw [hp] at h4; cases h4
    | some t => rfl
  · rcases (h2 a ha).2 b hb with h5 | h5
    · exact absurd h5 hab
    · exact h5
def zv_C (x : zv_X) (g : zv_G) : Prop := match x, g with
  | (p, e, s, m, args, below, meth, c, A, Q), (l, R, D, cl, tys, nL, cc, own, Ts) => p.tables.exec = Jvm.exec ∧ c.code = cc ∧ c.maxLocals = nL ∧ s.vm.findClass own = some m.cls ∧ (∀ w ∈ Ts, w.before args s = true) ∧ va_K D cl tys s ∧ (∀ q, s.heap.size ≤ q → A q) ∧ zv_E s ∧ zv_cl cl Ts = true
def zv_find : List zv_I → Nat → Option (Jvm.ClassFile.Instr × Nat × zv_H)
  | [], _ => none
  | (q, r) :: t, pc => bif Nat.beq q pc then some r else zv_find t pc
theorem zv_find_mem : ∀ (tb : List zv_I) (pc : Nat) (r : Jvm.ClassFile.Instr × Nat × zv_H), zv_find tb pc = some r → (pc, r) ∈ tb
  | [], pc, r, h => by cases h
  | (q, r0) :: t, pc, r, h => by
    unfold zv_find at h
    cases hq : Nat.beq q pc with
    | true =>
      rw [hq] at h
      have e : q = pc := Nat.eq_of_beq_eq_true hq
      subst e
      cases h
      exact List.mem_cons_self
    | false =>
      rw [hq] at h
      exact List.mem_cons_of_mem _ (zv_find_mem t pc r h)
-- locals: looked up, set in place
def zv_lg : zv_L → Nat → Option Value
  | [], _ => none
  | (j, v) :: t, i => bif Nat.beq j i then some v else zv_lg t i
theorem zv_lg_mem : ∀ (l : zv_L) (i : Nat) (v : Value), zv_lg l i = some v → (i, v) ∈ l
  | [], i, v, h => by cases h
  | (q, r0) :: t, i, v, h => by
    unfold zv_lg at h
    cases hq : Nat.beq q i with
    | true =>
      rw [hq] at h
      have e : q = i := Nat.eq_of_beq_eq_true hq
      subst e
      cases h
      exact List.mem_cons_self
    | false =>
      rw [hq] at h
      exact List.mem_cons_of_mem _ (zv_lg_mem t i v h)
def zv_c2 : Value → Bool
  | .long _ => true
  | .double _ => true
  | _ => false
theorem zv_c2_eq (v : Value) : (v.category == 2) = zv_c2 v := by cases v <;> rfl
theorem zv_c1_eq {v : Value} (h : zv_c2 v = false) : v.category = 1 := by cases v <;> first | rfl | cases h
theorem zv_c2_of {v : Value} (h : zv_c2 v = true) : v.category = 2 := by cases v <;> first | rfl | cases h
def zv_d1 (i : Nat) (q : Nat × Value) : Bool := Nat.beq (q.1 + 1) i && zv_c2 q.2
def zv_d2 (i : Nat) (q : Nat × Value) : Bool := Nat.beq q.1 (i + 1) || (Nat.beq (q.1 + 1) i && zv_c2 q.2)
def zv_fil (d : Nat × Value → Bool) (i : Nat) : zv_L → zv_L
  | [] => []
  | q :: t => bif Nat.beq q.1 i || d q then zv_fil d i t else q :: zv_fil d i t
def zv_set (d : Nat × Value → Bool) (i : Nat) (v : Value) : zv_L → zv_L
  | [] => [(i, v)]
  | q :: t => bif Nat.beq q.1 i then (i, v) :: zv_fil d i t else bif d q then zv_set d i v t else q :: zv_set d i v t
theorem zv_fil_mem {d : Nat × Value → Bool} {i : Nat} {q : Nat × Value} : ∀ (l : zv_L), q ∈ zv_fil d i l → q ∈ l ∧ q.1 ≠ i ∧ d q = false
  | [], h => by cases h
  | r :: t, h => by
    unfold zv_fil at h
    cases hb : (Nat.beq r.1 i || d r) with
    | true =>
      rw [hb] at h
      obtain ⟨h1, h2⟩ := zv_fil_mem t h
      exact ⟨List.mem_cons_of_mem _ h1, h2⟩
    | false =>
      rw [hb] at h
      rcases List.mem_cons.mp h with h | h
      · subst h
        rw [Bool.or_eq_false_iff] at hb
        refine ⟨List.mem_cons_self, fun e => ?_, hb.2⟩
        rw [e, Nat.beq_refl] at hb
        cases hb.1
      · obtain ⟨h1, h2⟩ := zv_fil_mem t h
        exact ⟨List.mem_cons_of_mem _ h1, h2⟩
theorem zv_set_mem {d : Nat × Value → Bool} {i : Nat} {v : Value} {q : Nat × Value} : ∀ (l : zv_L), q ∈ zv_set d i v l → q = (i, v) ∨ (q ∈ l ∧ q.1 ≠ i ∧ d q = false)
  | [], h => by
    rcases List.mem_cons.mp h with h | h
    · exact Or.inl h
    · cases h
  | r :: t, h => by
    unfold zv_set at h
    cases hb : Nat.beq r.1 i with
    | true =>
      rw [hb] at h
      rcases List.mem_cons.mp h with h | h
      · exact Or.inl h
      · obtain ⟨h1, h2⟩ := zv_fil_mem t h
        exact Or.inr ⟨List.mem_cons_of_mem _ h1, h2⟩
    | false =>
      rw [hb] at h
      cases hd : d r with
      | true =>
        rw [hd] at h
        rcases zv_set_mem t h with h | ⟨h1, h2⟩
        · exact Or.inl h
        · exact Or.inr ⟨List.mem_cons_of_mem _ h1, h2⟩
      | false =>
        rw [hd] at h
        rcases List.mem_cons.mp h with h | h
        · subst h
          refine Or.inr ⟨List.mem_cons_self, fun e => ?_, hd⟩
          rw [e, Nat.beq_refl] at hb
          cases hb
        · rcases zv_set_mem t h with h | ⟨h1, h2⟩
          · exact Or.inl h
          · exact Or.inr ⟨List.mem_cons_of_mem _ h1, h2⟩
theorem zv_beq {a b : Nat} : (a == b) = Nat.beq a b := Bool.eq_iff_iff.mpr ⟨fun h => by rw [beq_iff_eq.mp h]; exact Nat.beq_refl _, fun h => beq_iff_eq.mpr (Nat.eq_of_beq_eq_true h)⟩
theorem zv_beq_ne {a b : Nat} (h : a ≠ b) : (a == b) = false := by simpa using h
theorem zv_has1 {ls : Array Slot} {nL i : Nat} {v : Value} {lv : zv_L} (h : lv_has ls nL ((i, v) :: lv.filter (fun q => !(q.1 == i) && !(q.1 + 1 == i && q.2.category == 2)))) : lv_has ls nL (zv_set (zv_d1 i) i v lv) := by
  refine ⟨h.1, h.2.1, fun q hq => ?_⟩
  rcases zv_set_mem lv hq with e | ⟨h1, h2, h3⟩
  · subst e
    exact h.2.2 _ List.mem_cons_self
  · refine h.2.2 q (List.mem_cons_of_mem _ (List.mem_filter.mpr ⟨h1, ?_⟩))
    unfold zv_d1 at h3
    rw [zv_c2_eq, zv_beq_ne h2]
    rw [zv_beq, h3]
    rfl
theorem zv_has2 {ls : Array Slot} {nL i : Nat} {v : Value} {lv : zv_L} (h : lv_has ls nL ((i, v) :: lv.filter (fun q => !(q.1 == i) && (!(q.1 == i + 1) && !(q.1 + 1 == i && q.2.category == 2))))) : lv_has ls nL (zv_set (zv_d2 i) i v lv) := by
  refine ⟨h.1, h.2.1, fun q hq => ?_⟩
  rcases zv_set_mem lv hq with e | ⟨h1, h2, h3⟩
  · subst e
    exact h.2.2 _ List.mem_cons_self
  · refine h.2.2 q (List.mem_cons_of_mem _ (List.mem_filter.mpr ⟨h1, ?_⟩))
    unfold zv_d2 at h3
    rw [Bool.or_eq_false_iff] at h3
    rw [zv_c2_eq, zv_beq_ne h2]
    rw [zv_beq, zv_beq, h3.1, h3.2]
    rfl
-- shapes of the stack, the locals and the world

def zv_s1i (st : List Value) (f : Int32 → List Value → Prop) (d : Prop) : Prop := match st with
  | .int x :: r => f x r
  | _ => d
theorem zv_s1i_e {st : List Value} {f : Int32 → List Value → Prop} {d G : Prop} (h : zv_s1i st f d) (h1 : ∀ (x : Int32) (r : List Value), st = .int x :: r → f x r → G) (h2 : d → G) : G := by
  unfold zv_s1i at h
  split at h
  · exact h1 _ _ rfl h
  · exact h2 h
def zv_s2i (st : List Value) (f : Int32 → Int32 → List Value → Prop) (d : Prop) : Prop := match st with
  | .int y :: .int x :: r => f x y r
  | _ => d
theorem zv_s2i_e {st : List Value} {f : Int32 → Int32 → List Value → Prop} {d G : Prop} (h : zv_s2i st f d) (h1 : ∀ (x : Int32) (y : Int32) (r : List Value), st = .int y :: .int x :: r → f x y r → G) (h2 : d → G) : G := by
  unfold zv_s2i at h
  split at h
  · exact h1 _ _ _ rfl h
  · exact h2 h
def zv_s1l (st : List Value) (f : Int64 → List Value → Prop) (d : Prop) : Prop := match st with
  | .long x :: r => f x r
  | _ => d
theorem zv_s1l_e {st : List Value} {f : Int64 → List Value → Prop} {d G : Prop} (h : zv_s1l st f d) (h1 : ∀ (x : Int64) (r : List Value), st = .long x :: r → f x r → G) (h2 : d → G) : G := by
  unfold zv_s1l at h
  split at h
  · exact h1 _ _ rfl h
  · exact h2 h
def zv_s2l (st : List Value) (f : Int64 → Int64 → List Value → Prop) (d : Prop) : Prop := match st with
  | .long y :: .long x :: r => f x y r
  | _ => d
theorem zv_s2l_e {st : List Value} {f : Int64 → Int64 → List Value → Prop} {d G : Prop} (h : zv_s2l st f d) (h1 : ∀ (x : Int64) (y : Int64) (r : List Value), st = .long y :: .long x :: r → f x y r → G) (h2 : d → G) : G := by
  unfold zv_s2l at h
  split at h
  · exact h1 _ _ _ rfl h
  · exact h2 h
def zv_sli (st : List Value) (f : Int64 → Int32 → List Value → Prop) (d : Prop) : Prop := match st with
  | .int y :: .long x :: r => f x y r
  | _ => d
theorem zv_sli_e {st : List Value} {f : Int64 → Int32 → List Value → Prop} {d G : Prop} (h : zv_sli st f d) (h1 : ∀ (x : Int64) (y : Int32) (r : List Value), st = .int y :: .long x :: r → f x y r → G) (h2 : d → G) : G := by
  unfold zv_sli at h
  split at h
  · exact h1 _ _ _ rfl h
  · exact h2 h
def zv_s1r (st : List Value) (f : Nat → List Value → Prop) (d : Prop) : Prop := match st with
  | .ref a :: r => f a r
  | _ => d
theorem zv_s1r_e {st : List Value} {f : Nat → List Value → Prop} {d G : Prop} (h : zv_s1r st f d) (h1 : ∀ (a : Nat) (r : List Value), st = .ref a :: r → f a r → G) (h2 : d → G) : G := by
  unfold zv_s1r at h
  split at h
  · exact h1 _ _ rfl h
  · exact h2 h
def zv_sir (st : List Value) (f : Nat → Int32 → List Value → Prop) (d : Prop) : Prop := match st with
  | .int i :: .ref a :: r => f a i r
  | _ => d
theorem zv_sir_e {st : List Value} {f : Nat → Int32 → List Value → Prop} {d G : Prop} (h : zv_sir st f d) (h1 : ∀ (a : Nat) (i : Int32) (r : List Value), st = .int i :: .ref a :: r → f a i r → G) (h2 : d → G) : G := by
  unfold zv_sir at h
  split at h
  · exact h1 _ _ _ rfl h
  · exact h2 h
def zv_siir (st : List Value) (f : Nat → Int32 → Int32 → List Value → Prop) (d : Prop) : Prop := match st with
  | .int x :: .int i :: .ref a :: r => f a i x r
  | _ => d
theorem zv_siir_e {st : List Value} {f : Nat → Int32 → Int32 → List Value → Prop} {d G : Prop} (h : zv_siir st f d) (h1 : ∀ (a : Nat) (i : Int32) (x : Int32) (r : List Value), st = .int x :: .int i :: .ref a :: r → f a i x r → G) (h2 : d → G) : G := by
  unfold zv_siir at h
  split at h
  · exact h1 _ _ _ _ rfl h
  · exact h2 h
def zv_slir (st : List Value) (f : Nat → Int32 → Int64 → List Value → Prop) (d : Prop) : Prop := match st with
  | .long x :: .int i :: .ref a :: r => f a i x r
  | _ => d
theorem zv_slir_e {st : List Value} {f : Nat → Int32 → Int64 → List Value → Prop} {d G : Prop} (h : zv_slir st f d) (h1 : ∀ (a : Nat) (i : Int32) (x : Int64) (r : List Value), st = .long x :: .int i :: .ref a :: r → f a i x r → G) (h2 : d → G) : G := by
  unfold zv_slir at h
  split at h
  · exact h1 _ _ _ _ rfl h
  · exact h2 h
def zv_s1v (st : List Value) (f : Value → List Value → Prop) (d : Prop) : Prop := match st with
  | v :: r => f v r
  | _ => d
theorem zv_s1v_e {st : List Value} {f : Value → List Value → Prop} {d G : Prop} (h : zv_s1v st f d) (h1 : ∀ (v : Value) (r : List Value), st = v :: r → f v r → G) (h2 : d → G) : G := by
  unfold zv_s1v at h
  split at h
  · exact h1 _ _ rfl h
  · exact h2 h
def zv_s2v (st : List Value) (f : Value → Value → List Value → Prop) (d : Prop) : Prop := match st with
  | v :: w :: r => f v w r
  | _ => d
theorem zv_s2v_e {st : List Value} {f : Value → Value → List Value → Prop} {d G : Prop} (h : zv_s2v st f d) (h1 : ∀ (v : Value) (w : Value) (r : List Value), st = v :: w :: r → f v w r → G) (h2 : d → G) : G := by
  unfold zv_s2v at h
  split at h
  · exact h1 _ _ _ rfl h
  · exact h2 h
def zv_s3v (st : List Value) (f : Value → Value → Value → List Value → Prop) (d : Prop) : Prop := match st with
  | v :: w :: z :: r => f v w z r
  | _ => d
theorem zv_s3v_e {st : List Value} {f : Value → Value → Value → List Value → Prop} {d G : Prop} (h : zv_s3v st f d) (h1 : ∀ (v : Value) (w : Value) (z : Value) (r : List Value), st = v :: w :: z :: r → f v w z r → G) (h2 : d → G) : G := by
  unfold zv_s3v at h
  split at h
  · exact h1 _ _ _ _ rfl h
  · exact h2 h
def zv_svr (st : List Value) (f : Value → Nat → List Value → Prop) (d : Prop) : Prop := match st with
  | v :: .ref a :: r => f v a r
  | _ => d
theorem zv_svr_e {st : List Value} {f : Value → Nat → List Value → Prop} {d G : Prop} (h : zv_svr st f d) (h1 : ∀ (v : Value) (a : Nat) (r : List Value), st = v :: .ref a :: r → f v a r → G) (h2 : d → G) : G := by
  unfold zv_svr at h
  split at h
  · exact h1 _ _ _ rfl h
  · exact h2 h
def zv_li (lv : zv_L) (i : Nat) (f : Int32 → Prop) (d : Prop) : Prop := match zv_lg lv i with
  | some (.int x) => f x
  | _ => d
theorem zv_li_e {lv : zv_L} {i : Nat} {f : Int32 → Prop} {d G : Prop} (h : zv_li lv i f d) (h1 : ∀ x, (i, Value.int x) ∈ lv → f x → G) (h2 : d → G) : G := by
  unfold zv_li at h
  split at h
  · exact h1 _ (zv_lg_mem _ _ _ (by assumption)) h
  · exact h2 h
def zv_ll (lv : zv_L) (i : Nat) (f : Int64 → Prop) (d : Prop) : Prop := match zv_lg lv i with
  | some (.long x) => f x
  | _ => d
theorem zv_ll_e {lv : zv_L} {i : Nat} {f : Int64 → Prop} {d G : Prop} (h : zv_ll lv i f d) (h1 : ∀ x, (i, Value.long x) ∈ lv → f x → G) (h2 : d → G) : G := by
  unfold zv_ll at h
  split at h
  · exact h1 _ (zv_lg_mem _ _ _ (by assumption)) h
  · exact h2 h
def zv_lr (lv : zv_L) (i : Nat) (f : Nat → Prop) (d : Prop) : Prop := match zv_lg lv i with
  | some (.ref x) => f x
  | _ => d
theorem zv_lr_e {lv : zv_L} {i : Nat} {f : Nat → Prop} {d G : Prop} (h : zv_lr lv i f d) (h1 : ∀ x, (i, Value.ref x) ∈ lv → f x → G) (h2 : d → G) : G := by
  unfold zv_lr at h
  split at h
  · exact h1 _ (zv_lg_mem _ _ _ (by assumption)) h
  · exact h2 h
def zv_ob (ws : va_W) (q0 ci k : Nat) (f : Nat → Value → Prop) (d : Prop) : Prop := match ws[q0]? with
  | some (a, .inr (c, fs)) => bif Nat.beq c ci then (match fs[k]? with
    | some v => f a v
    | none => d) else d
  | _ => d
theorem zv_ob_e {ws : va_W} {q0 ci k : Nat} {f : Nat → Value → Prop} {d G : Prop} (h : zv_ob ws q0 ci k f d) (h1 : ∀ a fs v, ws[q0]? = some (a, .inr (ci, fs)) → fs[k]? = some v → f a v → G) (h2 : d → G) : G := by
  unfold zv_ob at h
  split at h
  · rename_i a c fs hw
    cases hc : Nat.beq c ci with
    | true =>
      rw [hc] at h
      have e : c = ci := Nat.eq_of_beq_eq_true hc
      subst e
      simp only [cond_true] at h
      split at h
      · exact h1 _ _ _ hw (by assumption) h
      · exact h2 h
    | false =>
      rw [hc] at h
      exact h2 h
  · exact h2 h
/-- a field's new value: of a kind with its type (0 int, 1 long, 2 a reference) -/
def zv_kd (kd : Nat) (v : Value) : Bool := match v with
  | .int _ => Nat.beq kd 0
  | .long _ => Nat.beq kd 1
  | .ref _ => Nat.beq kd 2
  | _ => false
def zv_pb (ws : va_W) (q0 ci k kd : Nat) (v : Value) (f : Nat → va_W → Prop) (d : Prop) : Prop := match ws[q0]? with
  | some (a, .inr (c, fs)) => bif Nat.beq c ci && (Nat.ble (k + 1) fs.length && zv_kd kd v) then f a (ws.set q0 (a, .inr (ci, fs.set k v))) else d
  | _ => d
theorem zv_pb_e {ws : va_W} {q0 ci k kd : Nat} {v : Value} {f : Nat → va_W → Prop} {d G : Prop} (h : zv_pb ws q0 ci k kd v f d) (h1 : ∀ a fs, ws[q0]? = some (a, .inr (ci, fs)) → k < fs.length → zv_kd kd v = true → f a (ws.set q0 (a, .inr (ci, fs.set k v))) → G) (h2 : d → G) : G := by
  unfold zv_pb at h
  split at h
  · rename_i a c fs hw
    cases hc : Nat.beq c ci && (Nat.ble (k + 1) fs.length && zv_kd kd v) with
    | true =>
      rw [hc] at h
      simp only [Bool.and_eq_true] at hc
      obtain ⟨h3, h4, h5⟩ := hc
      have e : c = ci := Nat.eq_of_beq_eq_true h3
      subst e
      exact h1 _ _ hw (Nat.le_of_ble_eq_true h4) h5 h
    | false =>
      rw [hc] at h
      exact h2 h
  · exact h2 h

def zv_ai (ws : va_W) (q0 : Nat) (f : Nat → ClassId → Nat → (Nat → Int32) → Prop) (d : Prop) : Prop := match ws[q0]? with
  | some (a, .inl (cA, n, .inl f0)) => f a cA n f0
  | _ => d
theorem zv_ai_e {ws : va_W} {q0 : Nat} {f : Nat → ClassId → Nat → (Nat → Int32) → Prop} {d G : Prop} (h : zv_ai ws q0 f d) (h1 : ∀ a cA n f0, ws[q0]? = some (a, .inl (cA, n, .inl f0)) → f a cA n f0 → G) (h2 : d → G) : G := by
  unfold zv_ai at h
  split at h
  · exact h1 _ _ _ _ (by assumption) h
  · exact h2 h
def zv_al (ws : va_W) (q0 : Nat) (f : Nat → ClassId → Nat → (Nat → Int64) → Prop) (d : Prop) : Prop := match ws[q0]? with
  | some (a, .inl (cA, n, .inr (.inl f0))) => f a cA n f0
  | _ => d
theorem zv_al_e {ws : va_W} {q0 : Nat} {f : Nat → ClassId → Nat → (Nat → Int64) → Prop} {d G : Prop} (h : zv_al ws q0 f d) (h1 : ∀ a cA n f0, ws[q0]? = some (a, .inl (cA, n, .inr (.inl f0))) → f a cA n f0 → G) (h2 : d → G) : G := by
  unfold zv_al at h
  split at h
  · exact h1 _ _ _ _ (by assumption) h
  · exact h2 h
def zv_an (ws : va_W) (q0 : Nat) (f : Nat → ClassId → Nat → Prop) (d : Prop) : Prop := match ws[q0]? with
  | some (a, .inl (cA, n, _)) => f a cA n
  | _ => d
theorem zv_an_e {ws : va_W} {q0 : Nat} {f : Nat → ClassId → Nat → Prop} {d G : Prop} (h : zv_an ws q0 f d) (h1 : ∀ a cA n y, ws[q0]? = some (a, .inl (cA, n, y)) → f a cA n → G) (h2 : d → G) : G := by
  unfold zv_an at h
  split at h
  · exact h1 _ _ _ _ (by assumption) h
  · exact h2 h
def zv_cz (c : Jvm.ClassFile.Cond) (x : Int32) (T F : Prop) : Prop := match c with
  | .eq => (x = 0 → T) ∧ (¬ x = 0 → F)
  | .ne => (¬ x = 0 → T) ∧ (x = 0 → F)
  | .lt => (x < 0 → T) ∧ (¬ x < 0 → F)
  | .ge => (0 ≤ x → T) ∧ (¬ 0 ≤ x → F)
  | .gt => (0 < x → T) ∧ (¬ 0 < x → F)
  | .le => (x ≤ 0 → T) ∧ (¬ x ≤ 0 → F)
def zv_cc (c : Jvm.ClassFile.Cond) (x y : Int32) (T F : Prop) : Prop := match c with
  | .eq => (x = y → T) ∧ (¬ x = y → F)
  | .ne => (¬ x = y → T) ∧ (x = y → F)
  | .lt => (x < y → T) ∧ (¬ x < y → F)
  | .ge => (y ≤ x → T) ∧ (¬ y ≤ x → F)
  | .gt => (y < x → T) ∧ (¬ y < x → F)
  | .le => (x ≤ y → T) ∧ (¬ x ≤ y → F)

def zv_k2t (k : Nat) : FieldType := bif Nat.beq k 0 then .int else bif Nat.beq k 1 then .long else bif Nat.beq k 2 then .byte else .boolean
/-- a field instruction's words: the class is in the list of classes, the field is linked -/
def zv_fld (own : String) (Ts : List Jvm.Cond) (cl : List vw_C) (n ci k : Nat) : Bool := match cl[ci]? with
  | some (_, T, N) => decide (k < N) && decide (Jvm.Cond.fieldLink own n (T k).1 (T k).2.1 (T k).2.2.1 ∈ Ts)
  | none => false
theorem zv_fld_e {own : String} {Ts : List Jvm.Cond} {cl : List vw_C} {n ci k : Nat} (h : zv_fld own Ts cl n ci k = true) : ∃ C T N, cl[ci]? = some (C, T, N) ∧ k < N ∧ Jvm.Cond.fieldLink own n (T k).1 (T k).2.1 (T k).2.2.1 ∈ Ts := by
  unfold zv_fld at h
  split at h
  · rename_i C T N hc
    simp only [Bool.and_eq_true, decide_eq_true_eq] at h
    exact ⟨C, T, N, hc, h.1, h.2⟩
  · cases h
def zv_fit (cl : List vw_C) (ci k kd : Nat) : Bool := match cl[ci]? with
  | some (_, T, _) => match parseFieldDescriptor (T k).2.2.1 with
    | some .int => Nat.beq kd 0
    | some .long => Nat.beq kd 1
    | some (.object _) => Nat.beq kd 2
    | some (.array _) => Nat.beq kd 2
    | _ => false
  | none => false
def zv_fin (cl : List vw_C) (ci k : Nat) (b : Bool) : Bool := match cl[ci]? with
  | some (_, T, _) => (T k).2.2.2 == b
  | none => false
theorem zv_fin_e {cl : List vw_C} {ci k : Nat} {b : Bool} {C : String} {T : u_T} {N : Nat} (hc : cl[ci]? = some (C, T, N)) (h : zv_fin cl ci k b = true) : (T k).2.2.2 = b := by
  unfold zv_fin at h
  rw [hc] at h
  exact beq_iff_eq.mp h
theorem zv_fit_e {cl : List vw_C} {ci k kd : Nat} {C : String} {T : u_T} {N : Nat} {v : Value} (hc : cl[ci]? = some (C, T, N)) (h : zv_fit cl ci k kd = true) (hv : zv_kd kd v = true) :
    ∃ ty, parseFieldDescriptor (T k).2.2.1 = some ty ∧ narrow ty v = v ∧ fits ty v = true := by
  unfold zv_fit at h
  rw [hc] at h
  dsimp only at h
  cases hp : parseFieldDescriptor (T k).2.2.1 with
  | none => rw [hp] at h; cases h
  | some t =>
    rw [hp] at h
    refine ⟨t, rfl, ?_⟩
    cases v with
    | int x =>
      have e : kd = 0 := Nat.eq_of_beq_eq_true hv
      subst e
      cases t <;> first | exact ⟨rfl, rfl⟩ | (simp at h; done) | cases h
    | long x =>
      have e : kd = 1 := Nat.eq_of_beq_eq_true hv
      subst e
      cases t <;> first | exact ⟨rfl, rfl⟩ | (simp at h; done) | cases h
    | ref x =>
      have e : kd = 2 := Nat.eq_of_beq_eq_true hv
      subst e
      cases t <;> first | exact ⟨rfl, rfl⟩ | (simp at h; done) | cases h
    | null => cases hv
    | float x => cases hv
    | double x => cases hv
    | retAddr x => cases hv
def zv_ln : Jvm.ClassFile.Instr → Nat
  | .bipush _ => 2 | .sipush _ => 3 | .ldc _ => 2 | .ldc_w _ => 3 | .ldc2_w _ => 3
  | .iload _ => 2 | .lload _ => 2 | .aload _ => 2 | .istore _ => 2 | .lstore _ => 2 | .astore _ => 2
  | .iinc _ _ => 3 | .ifCond _ _ => 3 | .if_icmp _ _ => 3 | .goto _ => 3 | .getfield _ => 3 | .putfield _ => 3
  | _ => 1
def zv_xt (nL : Nat) (own : String) (Ts : List Jvm.Cond) (cl : List vw_C) (pc : Nat) (i : Jvm.ClassFile.Instr) (h : zv_H) : Bool := match i with
  | .iconst n => decide (Int32.ofInt n = h.2.2.2.2.1)
  | .bipush n => decide ((Int8.ofInt n).toInt32 = h.2.2.2.2.1)
  | .sipush n => decide ((Int16.ofInt n).toInt32 = h.2.2.2.2.1)
  | .ldc n => decide (Jvm.Cond.constant own n h.2.2.2.2.1 ∈ Ts)
  | .ldc_w n => decide (Jvm.Cond.constant own n h.2.2.2.2.1 ∈ Ts)
  | .lconst n => decide (Int64.ofNat n.val = h.2.2.2.2.2)
  | .ldc2_w n => decide (Jvm.Cond.constantLong own n h.2.2.2.2.2 ∈ Ts)
  | .istore k => decide (k < nL)
  | .astore k => decide (k < nL)
  | .lstore k => decide (k + 1 < nL)
  | .istore_n k => decide (k.val < nL)
  | .astore_n k => decide (k.val < nL)
  | .lstore_n k => decide (k.val + 1 < nL)
  | .iinc k n => decide (Int32.ofInt n = h.2.2.2.2.1) && decide (k < nL)
  | .ifCond _ off => decide ((pc : Int) + off = (h.1 : Int))
  | .if_icmp _ off => decide ((pc : Int) + off = (h.1 : Int))
  | .goto off => decide ((pc : Int) + off = (h.1 : Int))
  | .getfield n => zv_fld own Ts cl n h.2.1 h.2.2.1
  | .putfield n => zv_fld own Ts cl n h.2.1 h.2.2.1 && (zv_fit cl h.2.1 h.2.2.1 h.2.2.2.1 && zv_fin cl h.2.1 h.2.2.1 false)
  | .baload => Nat.beq h.2.2.2.1 2 || Nat.beq h.2.2.2.1 3
  | .bastore => Nat.beq h.2.2.2.1 2 || Nat.beq h.2.2.2.1 3
  | _ => true
/-- the instructions that zv_1 steps over: for these the table must be right -/
def zv_sv : Jvm.ClassFile.Instr → Bool
  | .iconst _ => true
  | .bipush _ => true
  | .sipush _ => true
  | .ldc _ => true
  | .ldc_w _ => true
  | .lconst _ => true
  | .ldc2_w _ => true
  | .iload _ => true
  | .iload_n _ => true
  | .lload _ => true
  | .lload_n _ => true
  | .aload _ => true
  | .aload_n _ => true
  | .istore _ => true
  | .istore_n _ => true
  | .lstore _ => true
  | .lstore_n _ => true
  | .astore _ => true
  | .astore_n _ => true
  | .iinc _ _ => true
  | .iadd => true
  | .isub => true
  | .imul => true
  | .iand => true
  | .ior => true
  | .ixor => true
  | .ishl => true
  | .ishr => true
  | .idiv => true
  | .irem => true
  | .ladd => true
  | .lsub => true
  | .lmul => true
  | .land => true
  | .lor => true
  | .lxor => true
  | .ldiv => true
  | .lrem => true
  | .lcmp => true
  | .ineg => true
  | .lneg => true
  | .i2l => true
  | .l2i => true
  | .i2b => true
  | .i2s => true
  | .i2c => true
  | .iushr => true
  | .lushr => true
  | .lshl => true
  | .lshr => true
  | .dup => true
  | .pop => true
  | .dup_x1 => true
  | .dup_x2 => true
  | .dup2 => true
  | .dup2_x1 => true
  | .dup2_x2 => true
  | .ifCond _ _ => true
  | .if_icmp _ _ => true
  | .goto _ => true
  | .getfield _ => true
  | .putfield _ => true
  | .iaload => true
  | .laload => true
  | .iastore => true
  | .lastore => true
  | .arraylength => true
  | .baload => true
  | .bastore => true
  | _ => false
def zv_ok (nL : Nat) (cc : ByteArray) (own : String) (Ts : List Jvm.Cond) (cl : List vw_C) (tb : List zv_I) : Bool := tb.all (fun q => !zv_sv q.2.1 || (decide (decode cc q.1 = .ok (q.2.1, zv_ln q.2.1)) && (decide (q.2.2.1 = q.1 + zv_ln q.2.1) && zv_xt nL own Ts cl q.1 q.2.1 q.2.2.2)))
theorem zv_ok_e {nL : Nat} {cc : ByteArray} {own : String} {Ts : List Jvm.Cond} {cl : List vw_C} {tb : List zv_I} (h : zv_ok nL cc own Ts cl tb = true) {pc : Nat} {i : Jvm.ClassFile.Instr} {nx : Nat} {hh : zv_H} (hm : (pc, i, nx, hh) ∈ tb) (hs : zv_sv i = true) : decode cc pc = .ok (i, zv_ln i) ∧ nx = pc + zv_ln i ∧ zv_xt nL own Ts cl pc i hh = true := by
  have h1 := List.all_eq_true.mp h _ hm
  simp only [hs, Bool.not_true, Bool.false_or, Bool.and_eq_true, decide_eq_true_eq] at h1
  exact h1
def zv_1 (tys : List (ClassId × FieldType)) (i : Jvm.ClassFile.Instr) (nx ha hq fk kd : Nat) (cv : Int32) (lc : Int64) (leaf : Prop) (go : Nat → zv_L → List Value → va_W → Prop) (lv : zv_L) (st : List Value) (ws : va_W) : Prop := match i with
  | .iconst n => go nx lv (.int cv :: st) ws
  | .bipush n => go nx lv (.int cv :: st) ws
  | .sipush n => go nx lv (.int cv :: st) ws
  | .ldc n => go nx lv (.int cv :: st) ws
  | .ldc_w n => go nx lv (.int cv :: st) ws
  | .lconst n => go nx lv (.long lc :: st) ws
  | .ldc2_w n => go nx lv (.long lc :: st) ws
  | .iload k => zv_li lv k (fun x => go nx lv (.int x :: st) ws) leaf
  | .iload_n k => zv_li lv k.val (fun x => go nx lv (.int x :: st) ws) leaf
  | .lload k => zv_ll lv k (fun x => go nx lv (.long x :: st) ws) leaf
  | .lload_n k => zv_ll lv k.val (fun x => go nx lv (.long x :: st) ws) leaf
  | .aload k => zv_lr lv k (fun x => go nx lv (.ref x :: st) ws) leaf
  | .aload_n k => zv_lr lv k.val (fun x => go nx lv (.ref x :: st) ws) leaf
  | .istore k => zv_s1i st (fun x r => go nx (zv_set (zv_d1 k) k (.int x) lv) r ws) leaf
  | .istore_n k => zv_s1i st (fun x r => go nx (zv_set (zv_d1 k.val) k.val (.int x) lv) r ws) leaf
  | .lstore k => zv_s1l st (fun x r => go nx (zv_set (zv_d2 k) k (.long x) lv) r ws) leaf
  | .lstore_n k => zv_s1l st (fun x r => go nx (zv_set (zv_d2 k.val) k.val (.long x) lv) r ws) leaf
  | .astore k => zv_s1r st (fun x r => go nx (zv_set (zv_d1 k) k (.ref x) lv) r ws) leaf
  | .astore_n k => zv_s1r st (fun x r => go nx (zv_set (zv_d1 k.val) k.val (.ref x) lv) r ws) leaf
  | .iinc k n => zv_li lv k (fun x => go nx (zv_set (zv_d1 k) k (.int (x + cv)) lv) st ws) leaf
  | .iadd => zv_s2i st (fun x y r => go nx lv (.int (x + y) :: r) ws) leaf
  | .isub => zv_s2i st (fun x y r => go nx lv (.int (x - y) :: r) ws) leaf
  | .imul => zv_s2i st (fun x y r => go nx lv (.int (x * y) :: r) ws) leaf
  | .iand => zv_s2i st (fun x y r => go nx lv (.int (x &&& y) :: r) ws) leaf
  | .ior => zv_s2i st (fun x y r => go nx lv (.int (x ||| y) :: r) ws) leaf
  | .ixor => zv_s2i st (fun x y r => go nx lv (.int (x ^^^ y) :: r) ws) leaf
  | .ishl => zv_s2i st (fun x y r => go nx lv (.int (x <<< (y &&& 31)) :: r) ws) leaf
  | .ishr => zv_s2i st (fun x y r => go nx lv (.int (x >>> (y &&& 31)) :: r) ws) leaf
  | .idiv => zv_s2i st (fun x y r => ¬ y = 0 ∧ go nx lv (.int (x / y) :: r) ws) leaf
  | .irem => zv_s2i st (fun x y r => ¬ y = 0 ∧ go nx lv (.int (x - x / y * y) :: r) ws) leaf
  | .ladd => zv_s2l st (fun x y r => go nx lv (.long (x + y) :: r) ws) leaf
  | .lsub => zv_s2l st (fun x y r => go nx lv (.long (x - y) :: r) ws) leaf
  | .lmul => zv_s2l st (fun x y r => go nx lv (.long (x * y) :: r) ws) leaf
  | .land => zv_s2l st (fun x y r => go nx lv (.long (x &&& y) :: r) ws) leaf
  | .lor => zv_s2l st (fun x y r => go nx lv (.long (x ||| y) :: r) ws) leaf
  | .lxor => zv_s2l st (fun x y r => go nx lv (.long (x ^^^ y) :: r) ws) leaf
  | .ldiv => zv_s2l st (fun x y r => ¬ y = 0 ∧ go nx lv (.long (x / y) :: r) ws) leaf
  | .lrem => zv_s2l st (fun x y r => ¬ y = 0 ∧ go nx lv (.long (x - x / y * y) :: r) ws) leaf
  | .lcmp => zv_s2l st (fun x y r => go nx lv (.int (lg_cmp x y) :: r) ws) leaf
  | .ineg => zv_s1i st (fun x r => go nx lv (.int (-x) :: r) ws) leaf
  | .lneg => zv_s1l st (fun x r => go nx lv (.long (-x) :: r) ws) leaf
  | .i2l => zv_s1i st (fun x r => go nx lv (.long x.toInt64 :: r) ws) leaf
  | .l2i => zv_s1l st (fun x r => go nx lv (.int x.toInt32 :: r) ws) leaf
  | .i2b => zv_s1i st (fun x r => go nx lv (.int x.toInt8.toInt32 :: r) ws) leaf
  | .i2s => zv_s1i st (fun x r => go nx lv (.int x.toInt16.toInt32 :: r) ws) leaf
  | .i2c => zv_s1i st (fun x r => go nx lv (.int (x.toUInt32 % 65536).toInt32 :: r) ws) leaf
  | .iushr => zv_s2i st (fun x y r => go nx lv (.int (x.toUInt32 >>> (y.toUInt32 &&& Int32.toUInt32 31)).toInt32 :: r) ws) leaf
  | .lushr => zv_sli st (fun x y r => go nx lv (.long (x.toUInt64 >>> (y.toInt64.toUInt64 &&& Int64.toUInt64 63)).toInt64 :: r) ws) leaf
  | .lshl => zv_sli st (fun x y r => go nx lv (.long (x <<< (y.toInt64 &&& 63)) :: r) ws) leaf
  | .lshr => zv_sli st (fun x y r => go nx lv (.long (x >>> (y.toInt64 &&& 63)) :: r) ws) leaf
  | .dup => zv_s1v st (fun v r => bif zv_c2 v then leaf else go nx lv (v :: v :: r) ws) leaf
  | .pop => zv_s1v st (fun v r => bif zv_c2 v then leaf else go nx lv r ws) leaf
  | .dup_x1 => zv_s2v st (fun v w r => bif zv_c2 v || zv_c2 w then leaf else go nx lv (v :: w :: v :: r) ws) leaf
  | .dup_x2 => zv_s3v st (fun v w z r => bif zv_c2 v || (zv_c2 w || zv_c2 z) then leaf else go nx lv (v :: w :: z :: v :: r) ws) leaf
  | .dup2 => zv_s1v st (fun v r => bif zv_c2 v then go nx lv (v :: v :: r) ws else zv_s1v r (fun w r => bif zv_c2 w then leaf else go nx lv (v :: w :: v :: w :: r) ws) leaf) leaf
  | .dup2_x1 => zv_s2v st (fun v w r => bif zv_c2 v && !zv_c2 w then go nx lv (v :: w :: v :: r) ws else leaf) leaf
  | .dup2_x2 => zv_s3v st (fun v w z r => bif zv_c2 v && (!zv_c2 w && !zv_c2 z) then go nx lv (v :: w :: z :: v :: r) ws else leaf) leaf
  | .ifCond c off => zv_s1i st (fun x r => zv_cz c x (go ha lv r ws) (go nx lv r ws)) leaf
  | .if_icmp c off => zv_s2i st (fun x y r => zv_cc c x y (go ha lv r ws) (go nx lv r ws)) leaf
  | .goto off => go ha lv st ws
  | .getfield n => zv_s1r st (fun a r => zv_ob ws ha hq fk (fun a1 v => a = a1 ∧ go nx lv (v :: r) ws) leaf) leaf
  | .putfield n => zv_svr st (fun v a r => zv_pb ws ha hq fk kd v (fun a1 ws1 => a = a1 ∧ go nx lv r ws1) leaf) leaf
  | .iaload => zv_sir st (fun a i r => zv_ai ws ha (fun a1 cA n f => (a = a1 ∧ tys[hq]? = some (cA, .int)) ∧ vp_in i n ∧ go nx lv (.int (f i.toNatClampNeg) :: r) ws) leaf) leaf
  | .laload => zv_sir st (fun a i r => zv_al ws ha (fun a1 cA n f => (a = a1 ∧ tys[hq]? = some (cA, .long)) ∧ vp_in i n ∧ go nx lv (.long (f i.toNatClampNeg) :: r) ws) leaf) leaf
  | .iastore => zv_siir st (fun a i x r => zv_ai ws ha (fun a1 cA n f => (a = a1 ∧ tys[hq]? = some (cA, .int)) ∧ vp_in i n ∧ go nx lv r (ws.set ha (a1, .inl (cA, n, .inl (upd f i.toNatClampNeg x))))) leaf) leaf
  | .lastore => zv_slir st (fun a i x r => zv_al ws ha (fun a1 cA n f => (a = a1 ∧ tys[hq]? = some (cA, .long)) ∧ vp_in i n ∧ go nx lv r (ws.set ha (a1, .inl (cA, n, .inr (.inl (vp_updL f i.toNatClampNeg x)))))) leaf) leaf
  | .arraylength => zv_s1r st (fun a r => zv_an ws ha (fun a1 cA n => (a = a1 ∧ tys[hq]? = some (cA, zv_k2t kd)) ∧ go nx lv (.int (nI n) :: r) ws) leaf) leaf
  | .baload => zv_sir st (fun a i r => zv_ai ws ha (fun a1 cA n f => (a = a1 ∧ tys[hq]? = some (cA, zv_k2t kd)) ∧ vp_in i n ∧ go nx lv (.int (f i.toNatClampNeg) :: r) ws) leaf) leaf
  | .bastore => zv_siir st (fun a i x r => zv_ai ws ha (fun a1 cA n f => (a = a1 ∧ tys[hq]? = some (cA, zv_k2t kd)) ∧ vp_in i n ∧ go nx lv r (ws.set ha (a1, .inl (cA, n, .inl (upd f i.toNatClampNeg (vp_nar (zv_k2t kd) x)))))) leaf) leaf
  | _ => leaf
set_option maxHeartbeats 4000000 in
theorem zv_1_ok {x : zv_X} {l : Launch} {R : Room} {D : va_G} {cl : List vw_C} {tys : List (ClassId × FieldType)} {nL : Nat} {cc : ByteArray} {own : String} {Ts : List Jvm.Cond} (C : zv_C x (l, R, D, cl, tys, nL, cc, own, Ts)) {pc : Nat} {i : Jvm.ClassFile.Instr} {nx ha hq fk kd : Nat} {cv : Int32} {lc : Int64} {leaf : Prop} {go : Nat → zv_L → List Value → va_W → Prop} {lv : zv_L} {st : List Value} {ws : va_W} {ce sl : Nat}
    (hok : zv_sv i = true → decode cc pc = .ok (i, zv_ln i) ∧ nx = pc + zv_ln i ∧ zv_xt nL own Ts cl pc i (ha, hq, fk, kd, cv, lc) = true) (hgo : ∀ pc' lv' st' ws', go pc' lv' st' ws' → zv_V x (l, R, D, cl, tys, nL, cc, own, Ts) pc' lv' st' ws' ce sl)
    (hleaf : leaf → zv_V x (l, R, D, cl, tys, nL, cc, own, Ts) pc lv st ws ce sl) (hz : zv_1 tys i nx ha hq fk kd cv lc leaf go lv st ws) : zv_V x (l, R, D, cl, tys, nL, cc, own, Ts) pc lv st ws ce sl := by
  obtain ⟨p, e, s, m, args, below, meth, c, A, Q⟩ := x
  obtain ⟨hx, hb, hml, hown, hts, hK, hA, hE, hcl⟩ := C
  cases i with
  | iconst n =>
    have hok := hok rfl
    have z0 := hz
    clear hz
    dsimp only [zv_1] at z0
    obtain ⟨hd, rfl, hv⟩ := hok
    intro H locs ls hP hD hS hl
    exact lv_iconst hx hb hd (of_decide_eq_true hv) (hgo _ _ _ _ z0 H locs ls hP hD hS hl)
  | bipush n =>
    have hok := hok rfl
    have z0 := hz
    clear hz
    dsimp only [zv_1] at z0
    obtain ⟨hd, rfl, hv⟩ := hok
    intro H locs ls hP hD hS hl
    exact lv_bipush hx hb hd (of_decide_eq_true hv) (hgo _ _ _ _ z0 H locs ls hP hD hS hl)
  | sipush n =>
    have hok := hok rfl
    have z0 := hz
    clear hz
    dsimp only [zv_1] at z0
    obtain ⟨hd, rfl, hv⟩ := hok
    intro H locs ls hP hD hS hl
    exact lv_sipush hx hb hd (of_decide_eq_true hv) (hgo _ _ _ _ z0 H locs ls hP hD hS hl)
  | ldc n =>
    have hok := hok rfl
    have z0 := hz
    clear hz
    dsimp only [zv_1] at z0
    obtain ⟨hd, rfl, hv⟩ := hok
    intro H locs ls hP hD hS hl
    exact lv_ldc hx hb hown (hts _ (of_decide_eq_true hv)) hd (hgo _ _ _ _ z0 H locs ls hP hD hS hl)
  | ldc_w n =>
    have hok := hok rfl
    have z0 := hz
    clear hz
    dsimp only [zv_1] at z0
    obtain ⟨hd, rfl, hv⟩ := hok
    intro H locs ls hP hD hS hl
    exact lv_ldcw hx hb hown (hts _ (of_decide_eq_true hv)) hd (hgo _ _ _ _ z0 H locs ls hP hD hS hl)
  | lconst n =>
    have hok := hok rfl
    have z0 := hz
    clear hz
    dsimp only [zv_1] at z0
    obtain ⟨hd, rfl, hv⟩ := hok
    intro H locs ls hP hD hS hl
    exact lv_lconst hx hb hd (of_decide_eq_true hv) (hgo _ _ _ _ z0 H locs ls hP hD hS hl)
  | ldc2_w n =>
    have hok := hok rfl
    have z0 := hz
    clear hz
    dsimp only [zv_1] at z0
    obtain ⟨hd, rfl, hv⟩ := hok
    intro H locs ls hP hD hS hl
    exact lv_ldc2 hx hb hown (hts _ (of_decide_eq_true hv)) hd (hgo _ _ _ _ z0 H locs ls hP hD hS hl)
  | iload k =>
    have hok := hok rfl
    have z0 := hz
    clear hz
    dsimp only [zv_1] at z0
    obtain ⟨hd, rfl, -⟩ := hok
    refine zv_li_e z0 (fun x hm z1 => ?_) hleaf
    intro H locs ls hP hD hS hl
    exact lv_iload hx hb hd (hl.2.2 _ hm) (hgo _ _ _ _ z1 H locs ls hP hD hS hl)
  | iload_n k =>
    have hok := hok rfl
    have z0 := hz
    clear hz
    dsimp only [zv_1] at z0
    obtain ⟨hd, rfl, -⟩ := hok
    refine zv_li_e z0 (fun x hm z1 => ?_) hleaf
    intro H locs ls hP hD hS hl
    exact lv_iload_n hx hb hd rfl (hl.2.2 _ hm) (hgo _ _ _ _ z1 H locs ls hP hD hS hl)
  | lload k =>
    have hok := hok rfl
    have z0 := hz
    clear hz
    dsimp only [zv_1] at z0
    obtain ⟨hd, rfl, -⟩ := hok
    refine zv_ll_e z0 (fun x hm z1 => ?_) hleaf
    intro H locs ls hP hD hS hl
    exact lv_lload hx hb hd (hl.2.2 _ hm) (hgo _ _ _ _ z1 H locs ls hP hD hS hl)
  | lload_n k =>
    have hok := hok rfl
    have z0 := hz
    clear hz
    dsimp only [zv_1] at z0
    obtain ⟨hd, rfl, -⟩ := hok
    refine zv_ll_e z0 (fun x hm z1 => ?_) hleaf
    intro H locs ls hP hD hS hl
    exact lv_lload_n hx hb hd rfl (hl.2.2 _ hm) (hgo _ _ _ _ z1 H locs ls hP hD hS hl)
  | aload k =>
    have hok := hok rfl
    have z0 := hz
    clear hz
    dsimp only [zv_1] at z0
    obtain ⟨hd, rfl, -⟩ := hok
    refine zv_lr_e z0 (fun x hm z1 => ?_) hleaf
    intro H locs ls hP hD hS hl
    exact lv_aload hx hb hd (hl.2.2 _ hm) (hgo _ _ _ _ z1 H locs ls hP hD hS hl)
  | aload_n k =>
    have hok := hok rfl
    have z0 := hz
    clear hz
    dsimp only [zv_1] at z0
    obtain ⟨hd, rfl, -⟩ := hok
    refine zv_lr_e z0 (fun x hm z1 => ?_) hleaf
    intro H locs ls hP hD hS hl
    exact lv_aload_n hx hb hd rfl (hl.2.2 _ hm) (hgo _ _ _ _ z1 H locs ls hP hD hS hl)
  | istore k =>
    have hok := hok rfl
    have z0 := hz
    clear hz
    dsimp only [zv_1] at z0
    obtain ⟨hd, rfl, hv⟩ := hok
    refine zv_s1i_e z0 (fun x r e z1 => ?_) hleaf
    subst e
    intro H locs ls hP hD hS hl
    exact lv_istore hx hb hd hl (of_decide_eq_true hv) rfl (fun ls hl => hgo _ _ _ _ z1 H locs ls hP hD hS (zv_has1 hl))
  | istore_n k =>
    have hok := hok rfl
    have z0 := hz
    clear hz
    dsimp only [zv_1] at z0
    obtain ⟨hd, rfl, hv⟩ := hok
    refine zv_s1i_e z0 (fun x r e z1 => ?_) hleaf
    subst e
    intro H locs ls hP hD hS hl
    exact lv_istore_n hx hb hd rfl hl (of_decide_eq_true hv) rfl (fun ls hl => hgo _ _ _ _ z1 H locs ls hP hD hS (zv_has1 hl))
  | lstore k =>
    have hok := hok rfl
    have z0 := hz
    clear hz
    dsimp only [zv_1] at z0
    obtain ⟨hd, rfl, hv⟩ := hok
    refine zv_s1l_e z0 (fun x r e z1 => ?_) hleaf
    subst e
    intro H locs ls hP hD hS hl
    exact lv_lstore hx hb hd hl (of_decide_eq_true hv) rfl (fun ls hl => hgo _ _ _ _ z1 H locs ls hP hD hS (zv_has2 hl))
  | lstore_n k =>
    have hok := hok rfl
    have z0 := hz
    clear hz
    dsimp only [zv_1] at z0
    obtain ⟨hd, rfl, hv⟩ := hok
    refine zv_s1l_e z0 (fun x r e z1 => ?_) hleaf
    subst e
    intro H locs ls hP hD hS hl
    exact lv_lstore_n hx hb hd rfl hl (of_decide_eq_true hv) rfl (fun ls hl => hgo _ _ _ _ z1 H locs ls hP hD hS (zv_has2 hl))
  | astore k =>
    have hok := hok rfl
    have z0 := hz
    clear hz
    dsimp only [zv_1] at z0
    obtain ⟨hd, rfl, hv⟩ := hok
    refine zv_s1r_e z0 (fun x r e z1 => ?_) hleaf
    subst e
    intro H locs ls hP hD hS hl
    exact lv_astore hx hb hd hl (of_decide_eq_true hv) rfl (fun ls hl => hgo _ _ _ _ z1 H locs ls hP hD hS (zv_has1 hl))
  | astore_n k =>
    have hok := hok rfl
    have z0 := hz
    clear hz
    dsimp only [zv_1] at z0
    obtain ⟨hd, rfl, hv⟩ := hok
    refine zv_s1r_e z0 (fun x r e z1 => ?_) hleaf
    subst e
    intro H locs ls hP hD hS hl
    exact lv_astore_n hx hb hd rfl hl (of_decide_eq_true hv) rfl (fun ls hl => hgo _ _ _ _ z1 H locs ls hP hD hS (zv_has1 hl))
  | iinc k n =>
    have hok := hok rfl
    have z0 := hz
    clear hz
    dsimp only [zv_1] at z0
    obtain ⟨hd, rfl, hv⟩ := hok
    refine zv_li_e z0 (fun x hm z1 => ?_) hleaf
    obtain ⟨hv1, hv2⟩ := Bool.and_eq_true_iff.mp hv
    have hv := And.intro (of_decide_eq_true hv1) (of_decide_eq_true hv2)
    obtain ⟨i0, hi0⟩ := List.getElem?_of_mem hm
    intro H locs ls hP hD hS hl
    exact lv_iinc hx hb hd hl hi0 (by rw [hv.1]) hv.2 rfl (fun ls hl => hgo _ _ _ _ z1 H locs ls hP hD hS (zv_has1 hl))
  | iadd =>
    have hok := hok rfl
    have z0 := hz
    clear hz
    dsimp only [zv_1] at z0
    obtain ⟨hd, rfl, -⟩ := hok
    refine zv_s2i_e z0 (fun x y r e z1 => ?_) hleaf
    subst e
    intro H locs ls hP hD hS hl
    exact lv_iadd hx hb hd (hgo _ _ _ _ z1 H locs ls hP hD hS hl)
  | isub =>
    have hok := hok rfl
    have z0 := hz
    clear hz
    dsimp only [zv_1] at z0
    obtain ⟨hd, rfl, -⟩ := hok
    refine zv_s2i_e z0 (fun x y r e z1 => ?_) hleaf
    subst e
    intro H locs ls hP hD hS hl
    exact lv_isub hx hb hd (hgo _ _ _ _ z1 H locs ls hP hD hS hl)
  | imul =>
    have hok := hok rfl
    have z0 := hz
    clear hz
    dsimp only [zv_1] at z0
    obtain ⟨hd, rfl, -⟩ := hok
    refine zv_s2i_e z0 (fun x y r e z1 => ?_) hleaf
    subst e
    intro H locs ls hP hD hS hl
    exact lv_imul hx hb hd (hgo _ _ _ _ z1 H locs ls hP hD hS hl)
  | iand =>
    have hok := hok rfl
    have z0 := hz
    clear hz
    dsimp only [zv_1] at z0
    obtain ⟨hd, rfl, -⟩ := hok
    refine zv_s2i_e z0 (fun x y r e z1 => ?_) hleaf
    subst e
    intro H locs ls hP hD hS hl
    exact lv_iand hx hb hd (hgo _ _ _ _ z1 H locs ls hP hD hS hl)
  | ior =>
    have hok := hok rfl
    have z0 := hz
    clear hz
    dsimp only [zv_1] at z0
    obtain ⟨hd, rfl, -⟩ := hok
    refine zv_s2i_e z0 (fun x y r e z1 => ?_) hleaf
    subst e
    intro H locs ls hP hD hS hl
    exact lv_ior hx hb hd (hgo _ _ _ _ z1 H locs ls hP hD hS hl)
  | ixor =>
    have hok := hok rfl
    have z0 := hz
    clear hz
    dsimp only [zv_1] at z0
    obtain ⟨hd, rfl, -⟩ := hok
    refine zv_s2i_e z0 (fun x y r e z1 => ?_) hleaf
    subst e
    intro H locs ls hP hD hS hl
    exact lv_ixor hx hb hd (hgo _ _ _ _ z1 H locs ls hP hD hS hl)
  | ishl =>
    have hok := hok rfl
    have z0 := hz
    clear hz
    dsimp only [zv_1] at z0
    obtain ⟨hd, rfl, -⟩ := hok
    refine zv_s2i_e z0 (fun x y r e z1 => ?_) hleaf
    subst e
    intro H locs ls hP hD hS hl
    exact lv_ishl hx hb hd (hgo _ _ _ _ z1 H locs ls hP hD hS hl)
  | ishr =>
    have hok := hok rfl
    have z0 := hz
    clear hz
    dsimp only [zv_1] at z0
    obtain ⟨hd, rfl, -⟩ := hok
    refine zv_s2i_e z0 (fun x y r e z1 => ?_) hleaf
    subst e
    intro H locs ls hP hD hS hl
    exact lv_ishr hx hb hd (hgo _ _ _ _ z1 H locs ls hP hD hS hl)
  | idiv =>
    have hok := hok rfl
    have z0 := hz
    clear hz
    dsimp only [zv_1] at z0
    obtain ⟨hd, rfl, -⟩ := hok
    refine zv_s2i_e z0 (fun x y r e z1 => ?_) hleaf
    subst e
    intro H locs ls hP hD hS hl
    exact lv_idiv hx hb hd z1.1 (hgo _ _ _ _ z1.2 H locs ls hP hD hS hl)
  | irem =>
    have hok := hok rfl
    have z0 := hz
    clear hz
    dsimp only [zv_1] at z0
    obtain ⟨hd, rfl, -⟩ := hok
    refine zv_s2i_e z0 (fun x y r e z1 => ?_) hleaf
    subst e
    intro H locs ls hP hD hS hl
    exact lv_irem hx hb hd z1.1 (hgo _ _ _ _ z1.2 H locs ls hP hD hS hl)
  | ladd =>
    have hok := hok rfl
    have z0 := hz
    clear hz
    dsimp only [zv_1] at z0
    obtain ⟨hd, rfl, -⟩ := hok
    refine zv_s2l_e z0 (fun x y r e z1 => ?_) hleaf
    subst e
    intro H locs ls hP hD hS hl
    exact lv_ladd hx hb hd (hgo _ _ _ _ z1 H locs ls hP hD hS hl)
  | lsub =>
    have hok := hok rfl
    have z0 := hz
    clear hz
    dsimp only [zv_1] at z0
    obtain ⟨hd, rfl, -⟩ := hok
    refine zv_s2l_e z0 (fun x y r e z1 => ?_) hleaf
    subst e
    intro H locs ls hP hD hS hl
    exact lv_lsub hx hb hd (hgo _ _ _ _ z1 H locs ls hP hD hS hl)
  | lmul =>
    have hok := hok rfl
    have z0 := hz
    clear hz
    dsimp only [zv_1] at z0
    obtain ⟨hd, rfl, -⟩ := hok
    refine zv_s2l_e z0 (fun x y r e z1 => ?_) hleaf
    subst e
    intro H locs ls hP hD hS hl
    exact lv_lmul hx hb hd (hgo _ _ _ _ z1 H locs ls hP hD hS hl)
  | land =>
    have hok := hok rfl
    have z0 := hz
    clear hz
    dsimp only [zv_1] at z0
    obtain ⟨hd, rfl, -⟩ := hok
    refine zv_s2l_e z0 (fun x y r e z1 => ?_) hleaf
    subst e
    intro H locs ls hP hD hS hl
    exact lv_land hx hb hd (hgo _ _ _ _ z1 H locs ls hP hD hS hl)
  | lor =>
    have hok := hok rfl
    have z0 := hz
    clear hz
    dsimp only [zv_1] at z0
    obtain ⟨hd, rfl, -⟩ := hok
    refine zv_s2l_e z0 (fun x y r e z1 => ?_) hleaf
    subst e
    intro H locs ls hP hD hS hl
    exact lv_lor hx hb hd (hgo _ _ _ _ z1 H locs ls hP hD hS hl)
  | lxor =>
    have hok := hok rfl
    have z0 := hz
    clear hz
    dsimp only [zv_1] at z0
    obtain ⟨hd, rfl, -⟩ := hok
    refine zv_s2l_e z0 (fun x y r e z1 => ?_) hleaf
    subst e
    intro H locs ls hP hD hS hl
    exact lv_lxor hx hb hd (hgo _ _ _ _ z1 H locs ls hP hD hS hl)
  | ldiv =>
    have hok := hok rfl
    have z0 := hz
    clear hz
    dsimp only [zv_1] at z0
    obtain ⟨hd, rfl, -⟩ := hok
    refine zv_s2l_e z0 (fun x y r e z1 => ?_) hleaf
    subst e
    intro H locs ls hP hD hS hl
    exact lv_ldiv hx hb hd z1.1 (hgo _ _ _ _ z1.2 H locs ls hP hD hS hl)
  | lrem =>
    have hok := hok rfl
    have z0 := hz
    clear hz
    dsimp only [zv_1] at z0
    obtain ⟨hd, rfl, -⟩ := hok
    refine zv_s2l_e z0 (fun x y r e z1 => ?_) hleaf
    subst e
    intro H locs ls hP hD hS hl
    exact lv_lrem hx hb hd z1.1 (hgo _ _ _ _ z1.2 H locs ls hP hD hS hl)
  | lcmp =>
    have hok := hok rfl
    have z0 := hz
    clear hz
    dsimp only [zv_1] at z0
    obtain ⟨hd, rfl, -⟩ := hok
    refine zv_s2l_e z0 (fun x y r e z1 => ?_) hleaf
    subst e
    intro H locs ls hP hD hS hl
    exact W.lcmp hx hb hd (hgo _ _ _ _ z1 H locs ls hP hD hS hl)
  | ineg =>
    have hok := hok rfl
    have z0 := hz
    clear hz
    dsimp only [zv_1] at z0
    obtain ⟨hd, rfl, -⟩ := hok
    refine zv_s1i_e z0 (fun x r e z1 => ?_) hleaf
    subst e
    intro H locs ls hP hD hS hl
    exact lv_ineg hx hb hd (hgo _ _ _ _ z1 H locs ls hP hD hS hl)
  | lneg =>
    have hok := hok rfl
    have z0 := hz
    clear hz
    dsimp only [zv_1] at z0
    obtain ⟨hd, rfl, -⟩ := hok
    refine zv_s1l_e z0 (fun x r e z1 => ?_) hleaf
    subst e
    intro H locs ls hP hD hS hl
    exact lv_lneg hx hb hd (hgo _ _ _ _ z1 H locs ls hP hD hS hl)
  | i2l =>
    have hok := hok rfl
    have z0 := hz
    clear hz
    dsimp only [zv_1] at z0
    obtain ⟨hd, rfl, -⟩ := hok
    refine zv_s1i_e z0 (fun x r e z1 => ?_) hleaf
    subst e
    intro H locs ls hP hD hS hl
    exact lv_i2l hx hb hd rfl (hgo _ _ _ _ z1 H locs ls hP hD hS hl)
  | l2i =>
    have hok := hok rfl
    have z0 := hz
    clear hz
    dsimp only [zv_1] at z0
    obtain ⟨hd, rfl, -⟩ := hok
    refine zv_s1l_e z0 (fun x r e z1 => ?_) hleaf
    subst e
    intro H locs ls hP hD hS hl
    exact lv_l2i hx hb hd rfl (hgo _ _ _ _ z1 H locs ls hP hD hS hl)
  | i2b =>
    have hok := hok rfl
    have z0 := hz
    clear hz
    dsimp only [zv_1] at z0
    obtain ⟨hd, rfl, -⟩ := hok
    refine zv_s1i_e z0 (fun x r e z1 => ?_) hleaf
    subst e
    intro H locs ls hP hD hS hl
    exact lv_i2b hx hb hd rfl (hgo _ _ _ _ z1 H locs ls hP hD hS hl)
  | i2s =>
    have hok := hok rfl
    have z0 := hz
    clear hz
    dsimp only [zv_1] at z0
    obtain ⟨hd, rfl, -⟩ := hok
    refine zv_s1i_e z0 (fun x r e z1 => ?_) hleaf
    subst e
    intro H locs ls hP hD hS hl
    exact lv_i2s hx hb hd rfl (hgo _ _ _ _ z1 H locs ls hP hD hS hl)
  | i2c =>
    have hok := hok rfl
    have z0 := hz
    clear hz
    dsimp only [zv_1] at z0
    obtain ⟨hd, rfl, -⟩ := hok
    refine zv_s1i_e z0 (fun x r e z1 => ?_) hleaf
    subst e
    intro H locs ls hP hD hS hl
    exact lv_i2c hx hb hd rfl (hgo _ _ _ _ z1 H locs ls hP hD hS hl)
  | iushr =>
    have hok := hok rfl
    have z0 := hz
    clear hz
    dsimp only [zv_1] at z0
    obtain ⟨hd, rfl, -⟩ := hok
    refine zv_s2i_e z0 (fun x y r e z1 => ?_) hleaf
    subst e
    intro H locs ls hP hD hS hl
    exact lv_iushr hx hb hd rfl (hgo _ _ _ _ z1 H locs ls hP hD hS hl)
  | lushr =>
    have hok := hok rfl
    have z0 := hz
    clear hz
    dsimp only [zv_1] at z0
    obtain ⟨hd, rfl, -⟩ := hok
    refine zv_sli_e z0 (fun x y r e z1 => ?_) hleaf
    subst e
    intro H locs ls hP hD hS hl
    exact lv_lushr hx hb hd rfl (hgo _ _ _ _ z1 H locs ls hP hD hS hl)
  | lshl =>
    have hok := hok rfl
    have z0 := hz
    clear hz
    dsimp only [zv_1] at z0
    obtain ⟨hd, rfl, -⟩ := hok
    refine zv_sli_e z0 (fun x y r e z1 => ?_) hleaf
    subst e
    intro H locs ls hP hD hS hl
    exact lv_lshl hx hb hd rfl (hgo _ _ _ _ z1 H locs ls hP hD hS hl)
  | lshr =>
    have hok := hok rfl
    have z0 := hz
    clear hz
    dsimp only [zv_1] at z0
    obtain ⟨hd, rfl, -⟩ := hok
    refine zv_sli_e z0 (fun x y r e z1 => ?_) hleaf
    subst e
    intro H locs ls hP hD hS hl
    exact lv_lshr hx hb hd rfl (hgo _ _ _ _ z1 H locs ls hP hD hS hl)
  | dup =>
    have hok := hok rfl
    have z0 := hz
    clear hz
    dsimp only [zv_1] at z0
    obtain ⟨hd, rfl, -⟩ := hok
    refine zv_s1v_e z0 (fun v r e z1 => ?_) hleaf
    cases hv : zv_c2 v with
    | true => rw [hv] at z1; exact hleaf z1
    | false =>
      rw [hv] at z1
      subst e
      intro H locs ls hP hD hS hl
      exact lv_dup hx hb hd (zv_c1_eq hv) (hgo _ _ _ _ z1 H locs ls hP hD hS hl)
  | pop =>
    have hok := hok rfl
    have z0 := hz
    clear hz
    dsimp only [zv_1] at z0
    obtain ⟨hd, rfl, -⟩ := hok
    refine zv_s1v_e z0 (fun v r e z1 => ?_) hleaf
    cases hv : zv_c2 v with
    | true => rw [hv] at z1; exact hleaf z1
    | false =>
      rw [hv] at z1
      subst e
      intro H locs ls hP hD hS hl
      exact lv_pop hx hb hd (zv_c1_eq hv) (hgo _ _ _ _ z1 H locs ls hP hD hS hl)
  | dup_x1 =>
    have hok := hok rfl
    have z0 := hz
    clear hz
    dsimp only [zv_1] at z0
    obtain ⟨hd, rfl, -⟩ := hok
    refine zv_s2v_e z0 (fun v w r e z1 => ?_) hleaf
    cases hv : (zv_c2 v || zv_c2 w) with
    | true => rw [hv] at z1; exact hleaf z1
    | false =>
      rw [hv] at z1
      rw [Bool.or_eq_false_iff] at hv
      subst e
      intro H locs ls hP hD hS hl
      exact lv_dup_x1 hx hb hd (zv_c1_eq hv.1) (zv_c1_eq hv.2) (hgo _ _ _ _ z1 H locs ls hP hD hS hl)
  | dup_x2 =>
    have hok := hok rfl
    have z0 := hz
    clear hz
    dsimp only [zv_1] at z0
    obtain ⟨hd, rfl, -⟩ := hok
    refine zv_s3v_e z0 (fun v w z r e z1 => ?_) hleaf
    cases hv : (zv_c2 v || (zv_c2 w || zv_c2 z)) with
    | true => rw [hv] at z1; exact hleaf z1
    | false =>
      rw [hv] at z1
      rw [Bool.or_eq_false_iff, Bool.or_eq_false_iff] at hv
      subst e
      intro H locs ls hP hD hS hl
      exact lv_dup_x2 hx hb hd (zv_c1_eq hv.1) (zv_c1_eq hv.2.1) (zv_c1_eq hv.2.2) (hgo _ _ _ _ z1 H locs ls hP hD hS hl)
  | dup2 =>
    have hok := hok rfl
    have z0 := hz
    clear hz
    dsimp only [zv_1] at z0
    obtain ⟨hd, rfl, -⟩ := hok
    refine zv_s1v_e z0 (fun v r e z1 => ?_) hleaf
    cases hv : zv_c2 v with
    | true =>
      rw [hv] at z1
      subst e
      intro H locs ls hP hD hS hl
      exact lv_dup2_2 hx hb hd (zv_c2_of hv) (hgo _ _ _ _ z1 H locs ls hP hD hS hl)
    | false =>
      rw [hv] at z1
      refine zv_s1v_e z1 (fun w r2 e2 z2 => ?_) hleaf
      cases hw : zv_c2 w with
      | true => rw [hw] at z2; exact hleaf z2
      | false =>
        rw [hw] at z2
        subst e2
        subst e
        intro H locs ls hP hD hS hl
        exact lv_dup2_11 hx hb hd (zv_c1_eq hv) (zv_c1_eq hw) (hgo _ _ _ _ z2 H locs ls hP hD hS hl)
  | dup2_x1 =>
    have hok := hok rfl
    have z0 := hz
    clear hz
    dsimp only [zv_1] at z0
    obtain ⟨hd, rfl, -⟩ := hok
    refine zv_s2v_e z0 (fun v w r e z1 => ?_) hleaf
    cases hv : (zv_c2 v && !zv_c2 w) with
    | false => rw [hv] at z1; exact hleaf z1
    | true =>
      rw [hv] at z1
      simp only [Bool.and_eq_true, Bool.not_eq_true'] at hv
      subst e
      intro H locs ls hP hD hS hl
      exact lv_dup2_x1_2 hx hb hd (zv_c2_of hv.1) (zv_c1_eq hv.2) (hgo _ _ _ _ z1 H locs ls hP hD hS hl)
  | dup2_x2 =>
    have hok := hok rfl
    have z0 := hz
    clear hz
    dsimp only [zv_1] at z0
    obtain ⟨hd, rfl, -⟩ := hok
    refine zv_s3v_e z0 (fun v w z r e z1 => ?_) hleaf
    cases hv : (zv_c2 v && (!zv_c2 w && !zv_c2 z)) with
    | false => rw [hv] at z1; exact hleaf z1
    | true =>
      rw [hv] at z1
      simp only [Bool.and_eq_true, Bool.not_eq_true'] at hv
      subst e
      intro H locs ls hP hD hS hl
      exact lv_dup2_x2_2 hx hb hd (zv_c2_of hv.1) (zv_c1_eq hv.2.1) (zv_c1_eq hv.2.2) (hgo _ _ _ _ z1 H locs ls hP hD hS hl)
  | ifCond c off =>
    have hok := hok rfl
    have z0 := hz
    clear hz
    dsimp only [zv_1] at z0
    obtain ⟨hd, rfl, hv⟩ := hok
    refine zv_s1i_e z0 (fun x r e z1 => ?_) hleaf
    have hv2 : (pc : Int) + off = (ha : Int) := of_decide_eq_true hv
    subst e
    intro H locs ls hP hD hS hl
    cases c with
    | eq => exact lv_if_eq hx hb hd hv2 (fun q => hgo _ _ _ _ (z1.1 q) H locs ls hP hD hS hl) (fun q => hgo _ _ _ _ (z1.2 q) H locs ls hP hD hS hl)
    | ne => exact lv_if_ne hx hb hd hv2 (fun q => hgo _ _ _ _ (z1.1 q) H locs ls hP hD hS hl) (fun q => hgo _ _ _ _ (z1.2 q) H locs ls hP hD hS hl)
    | lt => exact lv_if_lt hx hb hd hv2 (fun q => hgo _ _ _ _ (z1.1 q) H locs ls hP hD hS hl) (fun q => hgo _ _ _ _ (z1.2 q) H locs ls hP hD hS hl)
    | ge => exact lv_if_ge hx hb hd hv2 (fun q => hgo _ _ _ _ (z1.1 q) H locs ls hP hD hS hl) (fun q => hgo _ _ _ _ (z1.2 q) H locs ls hP hD hS hl)
    | gt => exact lv_if_gt hx hb hd hv2 (fun q => hgo _ _ _ _ (z1.1 q) H locs ls hP hD hS hl) (fun q => hgo _ _ _ _ (z1.2 q) H locs ls hP hD hS hl)
    | le => exact lv_if_le hx hb hd hv2 (fun q => hgo _ _ _ _ (z1.1 q) H locs ls hP hD hS hl) (fun q => hgo _ _ _ _ (z1.2 q) H locs ls hP hD hS hl)
  | if_icmp c off =>
    have hok := hok rfl
    have z0 := hz
    clear hz
    dsimp only [zv_1] at z0
    obtain ⟨hd, rfl, hv⟩ := hok
    refine zv_s2i_e z0 (fun x y r e z1 => ?_) hleaf
    have hv2 : (pc : Int) + off = (ha : Int) := of_decide_eq_true hv
    subst e
    intro H locs ls hP hD hS hl
    cases c with
    | eq => exact lv_icmp_eq hx hb hd hv2 (fun q => hgo _ _ _ _ (z1.1 q) H locs ls hP hD hS hl) (fun q => hgo _ _ _ _ (z1.2 q) H locs ls hP hD hS hl)
    | ne => exact lv_icmp_ne hx hb hd hv2 (fun q => hgo _ _ _ _ (z1.1 q) H locs ls hP hD hS hl) (fun q => hgo _ _ _ _ (z1.2 q) H locs ls hP hD hS hl)
    | lt => exact lv_icmp_lt hx hb hd hv2 (fun q => hgo _ _ _ _ (z1.1 q) H locs ls hP hD hS hl) (fun q => hgo _ _ _ _ (z1.2 q) H locs ls hP hD hS hl)
    | ge => exact lv_icmp_ge hx hb hd hv2 (fun q => hgo _ _ _ _ (z1.1 q) H locs ls hP hD hS hl) (fun q => hgo _ _ _ _ (z1.2 q) H locs ls hP hD hS hl)
    | gt => exact lv_icmp_gt hx hb hd hv2 (fun q => hgo _ _ _ _ (z1.1 q) H locs ls hP hD hS hl) (fun q => hgo _ _ _ _ (z1.2 q) H locs ls hP hD hS hl)
    | le => exact lv_icmp_le hx hb hd hv2 (fun q => hgo _ _ _ _ (z1.1 q) H locs ls hP hD hS hl) (fun q => hgo _ _ _ _ (z1.2 q) H locs ls hP hD hS hl)
  | goto off =>
    have hok := hok rfl
    have z0 := hz
    clear hz
    dsimp only [zv_1] at z0
    obtain ⟨hd, rfl, hv⟩ := hok
    intro H locs ls hP hD hS hl
    exact lv_goto hx hb hd (of_decide_eq_true hv) (hgo _ _ _ _ z0 H locs ls hP hD hS hl)
  | getfield n =>
    have hok := hok rfl
    have z0 := hz
    clear hz
    dsimp only [zv_1] at z0
    obtain ⟨hd, rfl, hv⟩ := hok
    refine zv_s1r_e z0 (fun a r e z1 => ?_) hleaf
    refine zv_ob_e z1 (fun a1 fs v hw hf z2 => ?_) hleaf
    obtain ⟨C, T, N, hc, hk, hlk⟩ := zv_fld_e hv
    obtain ⟨hin, -, -⟩ := zv_cl_e hcl hc
    obtain ⟨hz1, z2⟩ := z2
    subst hz1
    subst e
    intro H locs ls hP hD hS hl
    exact va_get hx hb hts hin hown hK hP ha hw hc fk hk (hts _ hlk) (fun _ h9 => h9) hf hd (hgo _ _ _ _ z2 H locs ls hP hD hS hl)
  | putfield n =>
    have hok := hok rfl
    have z0 := hz
    clear hz
    dsimp only [zv_1] at z0
    obtain ⟨hd, rfl, hv⟩ := hok
    refine zv_svr_e z0 (fun v a r e z1 => ?_) hleaf
    refine zv_pb_e z1 (fun a1 fs hw hl1 hkd z2 => ?_) hleaf
    have hv := Bool.and_eq_true_iff.mp hv
    obtain ⟨C, T, N, hc, hk, hlk⟩ := zv_fld_e hv.1
    obtain ⟨hin, hty0, hnm⟩ := zv_cl_e hcl hc
    have hv2 := Bool.and_eq_true_iff.mp hv.2
    obtain ⟨ty, hty, hn, hfit⟩ := zv_fit_e hc hv2.1 hkd
    have hfin := zv_fin_e hc hv2.2
    obtain ⟨hz1, z2⟩ := z2
    subst hz1
    subst e
    intro H locs ls hP hD hS hl
    exact va_put hx hb hts hin (zv_ty T) hty0 hnm hown hK hP hD hS ha hw hc fk hk (hts _ hlk) (fun _ h9 => h9) hfin hty hn hfit hl1 hd (fun H locs hP hD hS => hgo _ _ _ _ z2 H locs ls hP hD hS hl)
  | iaload =>
    have hok := hok rfl
    have z0 := hz
    clear hz
    dsimp only [zv_1] at z0
    obtain ⟨hd, rfl, -⟩ := hok
    refine zv_sir_e z0 (fun a i r e z1 => ?_) hleaf
    refine zv_ai_e z1 (fun a1 cA n f hw z2 => ?_) hleaf
    obtain ⟨⟨hz1, ht⟩, hin, z2⟩ := z2
    subst hz1
    subst e
    intro H locs ls hP hD hS hl
    exact va_iald hx hb hK hP ha hq hw ht hin hd (hgo _ _ _ _ z2 H locs ls hP hD hS hl)
  | laload =>
    have hok := hok rfl
    have z0 := hz
    clear hz
    dsimp only [zv_1] at z0
    obtain ⟨hd, rfl, -⟩ := hok
    refine zv_sir_e z0 (fun a i r e z1 => ?_) hleaf
    refine zv_al_e z1 (fun a1 cA n f hw z2 => ?_) hleaf
    obtain ⟨⟨hz1, ht⟩, hin, z2⟩ := z2
    subst hz1
    subst e
    intro H locs ls hP hD hS hl
    exact va_lald hx hb hK hP ha hq hw ht hin hd (hgo _ _ _ _ z2 H locs ls hP hD hS hl)
  | iastore =>
    have hok := hok rfl
    have z0 := hz
    clear hz
    dsimp only [zv_1] at z0
    obtain ⟨hd, rfl, -⟩ := hok
    refine zv_siir_e z0 (fun a i x r e z1 => ?_) hleaf
    refine zv_ai_e z1 (fun a1 cA n f hw z2 => ?_) hleaf
    obtain ⟨⟨hz1, ht⟩, hin, z2⟩ := z2
    subst hz1
    subst e
    intro H locs ls hP hD hS hl
    exact va_iast hx hb hK hP hD hS ha hq hw ht hin hd (fun H locs hP hD hS => hgo _ _ _ _ z2 H locs ls hP hD hS hl)
  | lastore =>
    have hok := hok rfl
    have z0 := hz
    clear hz
    dsimp only [zv_1] at z0
    obtain ⟨hd, rfl, -⟩ := hok
    refine zv_slir_e z0 (fun a i x r e z1 => ?_) hleaf
    refine zv_al_e z1 (fun a1 cA n f hw z2 => ?_) hleaf
    obtain ⟨⟨hz1, ht⟩, hin, z2⟩ := z2
    subst hz1
    subst e
    intro H locs ls hP hD hS hl
    exact va_last hx hb hK hP hD hS ha hq hw ht hin hd (fun H locs hP hD hS => hgo _ _ _ _ z2 H locs ls hP hD hS hl)
  | arraylength =>
    have hok := hok rfl
    have z0 := hz
    clear hz
    dsimp only [zv_1] at z0
    obtain ⟨hd, rfl, -⟩ := hok
    refine zv_s1r_e z0 (fun a r e z1 => ?_) hleaf
    refine zv_an_e z1 (fun a1 cA n y hw z2 => ?_) hleaf
    obtain ⟨⟨hz1, ht⟩, z2⟩ := z2
    subst hz1
    subst e
    intro H locs ls hP hD hS hl
    exact va_alen hx hb hK hP ha hq hw ht rfl hd (hgo _ _ _ _ z2 H locs ls hP hD hS hl)
  | baload =>
    have hok := hok rfl
    have z0 := hz
    clear hz
    dsimp only [zv_1] at z0
    obtain ⟨hd, rfl, hv⟩ := hok
    refine zv_sir_e z0 (fun a i r e z1 => ?_) hleaf
    refine zv_ai_e z1 (fun a1 cA n f hw z2 => ?_) hleaf
    obtain ⟨⟨hz1, ht⟩, hin, z2⟩ := z2
    subst hz1
    subst e
    intro H locs ls hP hD hS hl
    rcases Bool.or_eq_true_iff.mp hv with h2 | h2
    · have e3 : kd = _ := Nat.eq_of_beq_eq_true h2
      rw [e3] at ht
      exact va_bald hx hb hK hP ha hq hw ht hin hd (hgo _ _ _ _ z2 H locs ls hP hD hS hl)
    · have e3 : kd = _ := Nat.eq_of_beq_eq_true h2
      rw [e3] at ht
      exact va_zald hx hb hK hP ha hq hw ht hin hd (hgo _ _ _ _ z2 H locs ls hP hD hS hl)
  | bastore =>
    have hok := hok rfl
    have z0 := hz
    clear hz
    dsimp only [zv_1] at z0
    obtain ⟨hd, rfl, hv⟩ := hok
    refine zv_siir_e z0 (fun a i x r e z1 => ?_) hleaf
    refine zv_ai_e z1 (fun a1 cA n f hw z2 => ?_) hleaf
    obtain ⟨⟨hz1, ht⟩, hin, z2⟩ := z2
    subst hz1
    subst e
    intro H locs ls hP hD hS hl
    rcases Bool.or_eq_true_iff.mp hv with h2 | h2
    · have e3 : kd = _ := Nat.eq_of_beq_eq_true h2
      rw [e3] at ht
      rw [e3] at z2
      exact va_bast hx hb hK hP hD hS ha hq hw ht hin hd (fun H locs hP hD hS => hgo _ _ _ _ z2 H locs ls hP hD hS hl)
    · have e3 : kd = _ := Nat.eq_of_beq_eq_true h2
      rw [e3] at ht
      rw [e3] at z2
      exact va_zast hx hb hK hP hD hS ha hq hw ht hin hd (fun H locs hP hD hS => hgo _ _ _ _ z2 H locs ls hP hD hS hl)
  | _ => exact hleaf hz
def zv_ev (x : zv_X) (g : zv_G) (tb : List zv_I) (sp : List Nat) : Nat → Nat → zv_L → List Value → va_W → Nat → Nat → Prop
  | 0, pc, lv, st, ws, ce, sl => zv_V x g pc lv st ws ce sl
  | n + 1, pc, lv, st, ws, ce, sl => match zv_find tb pc with
    | none => zv_V x g pc lv st ws ce sl
    | some (i, nx, ha, hq, fk, kd, cv, lc) => zv_1 g.2.2.2.2.1 i nx ha hq fk kd cv lc (zv_V x g pc lv st ws ce sl) (fun pc' lv' st' ws' => bif sp.contains pc' then zv_V x g pc' lv' st' ws' ce sl else zv_ev x g tb sp n pc' lv' st' ws' ce sl) lv st ws
theorem zv_go {x : zv_X} {l : Launch} {R : Room} {D : va_G} {cl : List vw_C} {tys : List (ClassId × FieldType)} {nL : Nat} {cc : ByteArray} {own : String} {Ts : List Jvm.Cond} (C : zv_C x (l, R, D, cl, tys, nL, cc, own, Ts)) {tb : List zv_I} (hok : zv_ok nL cc own Ts cl tb = true) (sp : List Nat) : ∀ (n : Nat) {pc : Nat} {lv : zv_L} {st : List Value} {ws : va_W} {ce sl : Nat}, zv_ev x (l, R, D, cl, tys, nL, cc, own, Ts) tb sp n pc lv st ws ce sl → zv_V x (l, R, D, cl, tys, nL, cc, own, Ts) pc lv st ws ce sl := by
  intro n
  induction n with
  | zero => intro pc lv st ws ce sl h; exact h
  | succ n ih =>
    intro pc lv st ws ce sl h
    unfold zv_ev at h
    split at h
    · exact h
    · rename_i i nx ha hq fk kd cv lc hf
      refine zv_1_ok C (fun hs => zv_ok_e hok (zv_find_mem _ _ _ hf) hs) (fun pc' lv' st' ws' hg => ?_) (fun hl => hl) h
      cases hb : sp.contains pc' with
      | true => rw [hb] at hg; exact hg
      | false => rw [hb] at hg; exact ih hg
end
section
/-! CONTRACTS, CALLS, ENDS over the walking layer -/
theorem zv_E.moved {s U : State} (hW : s.WarmedH U.vm) (h : zv_E s) : zv_E U := fun q hq => va_Nw.warmM hW (h q hq)
theorem zv_E.same {u U : State} (hv : u.vm = U.vm) (h : zv_E u) : zv_E U := fun q hq => va_Nw.same rfl hv (h q hq)
/-- a method's start: its arguments, its world's cells, the tables -/
def zv_Pre (D : va_G) (cl : List vw_C) (tys : List (ClassId × FieldType)) (ar : List Value) (wc : va_W) (sz : Nat) : Array Value → State → Prop := va_Pc ar (fun U => U.heap.size = sz ∧ va_P D cl wc U.heap ∧ va_K D cl tys U ∧ va_D (fun _ => True) wc ∧ zv_E U)
def zv_Post {S : Type} (D : va_G) (cl : List vw_C) (tys : List (ClassId × FieldType)) (wc : va_W) (sz : Nat) (post : S → Prop) (ret : S → Option Value) (w1 : S → va_W) : Array Value → State → Outcome → State → Prop := fun _ st oc t => (∃ u : S, oc = .returned (ret u) ∧ post u ∧ va_P D cl (w1 u) t.heap ∧ va_K D cl tys t ∧ va_D (va_A wc sz) (w1 u)) ∧ va_F (va_A wc sz) st t
/-- THE CONTRACT: from the world wc with the arguments ar it returns 'ret u', its cells are 'w1 u' -/
def zv_M {S : Type} (l : Launch) (D : va_G) (cl : List vw_C) (tys : List (ClassId × FieldType)) (y : MethodName) (wds : List Jvm.Cond) (rm : Room) (ar : List Value) (wc : va_W) (post : S → Prop) (ret : S → Option Value) (w1 : S → va_W) : Prop :=
  ∀ sz : Nat, Met l y wds rm (zv_Pre D cl tys ar wc sz) (zv_Post D cl tys wc sz post ret w1) rm.cells rm.slots (va_A wc sz)
theorem zv_Pre_blind {D : va_G} {cl : List vw_C} {tys : List (ClassId × FieldType)} {ar : List Value} {wc : va_W} {sz : Nat} : FrameBlind (zv_Pre D cl tys ar wc sz) := by
  intro a U g mk q
  obtain ⟨q0, q1, qP, qK, qD, qE⟩ := q
  exact ⟨q0, q1, qP, va_K.moved (u := U) (U := U.calling g mk a) (Vm.Alike.refl U.vm) qK, qD, qE.same rfl⟩
/-- cells put back in their places, new ones behind -/
def zv_put : va_W → List Nat → va_W → va_W
  | ws, [], w1 => ws ++ w1
  | ws, _ :: _, [] => ws
  | ws, i :: is, q :: w1 => zv_put (ws.set i q) is w1
/-- where the j-th cell of the callee's goes -/
def zv_pos (n : Nat) : List Nat → Nat → Nat
  | [], j => n + j
  | i :: _, 0 => i
  | _ :: is, j + 1 => zv_pos n is j
theorem zv_pos_nil (n j : Nat) : zv_pos n [] j = n + j := by cases j <;> rfl
theorem zv_put_spec : ∀ (is : List Nat) (ws w1 : va_W), is.length ≤ w1.length → (∀ i ∈ is, i < ws.length) → ∀ (k : Nat) (q : Nat × va_E), (zv_put ws is w1)[k]? = some q → (∃ j, w1[j]? = some q ∧ k = zv_pos ws.length is j) ∨ (k ∉ is ∧ ws[k]? = some q)
  | [], ws, w1, _, _, k, q, h => by
    have h : (ws ++ w1)[k]? = some q := by
      cases w1 with
      | nil => exact h
      | cons a b => exact h
    by_cases hl : k < ws.length
    · rw [List.getElem?_append_left hl] at h
      exact Or.inr ⟨List.not_mem_nil, h⟩
    · rw [List.getElem?_append_right (by omega)] at h
      exact Or.inl ⟨k - ws.length, h, by rw [zv_pos_nil]; omega⟩
  | i :: is, ws, [], hn, _, k, q, h => absurd hn (by simp)
  | i :: is, ws, r :: w1, hn, hi, k, q, h => by
    have hil : i < ws.length := hi i List.mem_cons_self
    have h : (zv_put (ws.set i r) is w1)[k]? = some q := h
    rcases zv_put_spec is (ws.set i r) w1 (by simpa using hn) (fun j hj => by rw [List.length_set]; exact hi j (List.mem_cons_of_mem _ hj)) k q h with ⟨j, h1, h2⟩ | ⟨h1, h2⟩
    · refine Or.inl ⟨j + 1, h1, ?_⟩
      rw [List.length_set] at h2
      exact h2
    · by_cases hk : k = i
      · subst hk
        rw [List.getElem?_set_self hil] at h2
        exact Or.inl ⟨0, h2, rfl⟩
      · rw [List.getElem?_set_ne (Ne.symm hk)] at h2
        refine Or.inr ⟨fun hm => ?_, h2⟩
        rcases List.mem_cons.mp hm with e | e
        · exact hk e
        · exact h1 e
theorem zv_pos_ge (n : Nat) : ∀ (is : List Nat) (j : Nat), (zv_pos n is j ∈ is ∧ j < is.length) ∨ (n ≤ zv_pos n is j ∧ is.length ≤ j)
  | [], j => Or.inr ⟨by rw [zv_pos_nil]; omega, Nat.zero_le _⟩
  | i :: is, 0 => Or.inl ⟨List.mem_cons_self, by simp⟩
  | i :: is, j + 1 => by
    rcases zv_pos_ge n is j with ⟨h1, h2⟩ | ⟨h1, h2⟩
    · exact Or.inl ⟨List.mem_cons_of_mem _ h1, by simpa using h2⟩
    · exact Or.inr ⟨h1, by simpa using h2⟩
theorem zv_pos_inj (n : Nat) : ∀ (is : List Nat), va_nd is = true → (∀ i ∈ is, i < n) → ∀ (a b : Nat), zv_pos n is a = zv_pos n is b → a = b
  | [], _, _, a, b, h => by rw [zv_pos_nil, zv_pos_nil] at h; omega
  | i :: is, hn, hi, 0, 0, _ => rfl
  | i :: is, hn, hi, 0, b + 1, h => by
    simp only [va_nd, Bool.and_eq_true, decide_eq_true_eq] at hn
    have h : i = zv_pos n is b := h
    rcases zv_pos_ge n is b with ⟨h1, -⟩ | ⟨h1, -⟩
    · exact absurd (h ▸ h1) hn.1
    · have := hi i List.mem_cons_self
      omega
  | i :: is, hn, hi, a + 1, 0, h => by
    simp only [va_nd, Bool.and_eq_true, decide_eq_true_eq] at hn
    have h : zv_pos n is a = i := h
    rcases zv_pos_ge n is a with ⟨h1, -⟩ | ⟨h1, -⟩
    · exact absurd (h ▸ h1) hn.1
    · have := hi i List.mem_cons_self
      omega
  | i :: is, hn, hi, a + 1, b + 1, h => by
    simp only [va_nd, Bool.and_eq_true, decide_eq_true_eq] at hn
    have h : zv_pos n is a = zv_pos n is b := h
    rw [zv_pos_inj n is hn.2 (fun j hj => hi j (List.mem_cons_of_mem _ hj)) a b h]
/-- behind a call: the world with the callee's cells put back -/
theorem zv_join {A0 : Nat → Prop} {D : va_G} {cl : List vw_C} {ws wc w1 : va_W} {H H1 : Heap} (hP : va_P D cl ws H) (hD : va_D A0 ws) (isC : List Nat) (hC : isC.map (fun i => ws[i]?) = wc.map some) (hn : va_nd isC = true) (hle : isC.length ≤ w1.length)
    (hk : ∀ q : Nat, q < H.size → ¬ va_A wc H.size q → H1[q]? = H[q]?) (hF : ∀ q, va_A wc H.size q → A0 q) (hP1 : va_P D cl w1 H1) (hD1 : va_D (va_A wc H.size) w1) : va_P D cl (zv_put ws isC w1) H1 ∧ va_D A0 (zv_put ws isC w1) := by
  have hil : ∀ i ∈ isC, i < ws.length := by
    intro i hi
    have h1 : ws[i]? ∈ wc.map some := by rw [← hC]; exact List.mem_map.mpr ⟨i, hi, rfl⟩
    obtain ⟨q, -, hq⟩ := List.mem_map.mp h1
    exact (List.getElem?_eq_some_iff.mp hq.symm).1
  have apart : ∀ (k : Nat) (q : Nat × va_E), k ∉ isC → ws[k]? = some q → q.1 < H.size ∧ ¬ va_A wc H.size q.1 := by
    intro k q hk2 hq
    have hl := (hP k q hq).lt
    refine ⟨hl, fun h => ?_⟩
    rcases h with ⟨k2, e, h⟩ | h
    · have h1 : (isC.map (fun i => ws[i]?))[k2]? = some (some (q.1, e)) := by rw [hC, List.getElem?_map, h]; rfl
      rw [List.getElem?_map] at h1
      cases hi : isC[k2]? with
      | none => rw [hi] at h1; cases h1
      | some i =>
        rw [hi] at h1
        have h2 : ws[i]? = some (q.1, e) := Option.some.inj h1
        have hij := hD.1 k i q (q.1, e) hq h2 rfl
        subst hij
        exact hk2 (List.mem_of_getElem? hi)
    · omega
  refine ⟨fun k q hq => ?_, fun i j x y hi hj hxy => ?_, fun k q hq => ?_⟩
  · rcases zv_put_spec isC ws w1 hle hil k q hq with ⟨j, h1, -⟩ | ⟨h1, h2⟩
    · exact hP1 j q h1
    · obtain ⟨g1, g2⟩ := apart k q h1 h2
      exact (hP k q h2).kept (hk q.1 g1 g2)
  · rcases zv_put_spec isC ws w1 hle hil i x hi with ⟨a, h1, h2⟩ | ⟨h1, h2⟩ <;> rcases zv_put_spec isC ws w1 hle hil j y hj with ⟨b, h3, h4⟩ | ⟨h3, h4⟩
    · have := hD1.1 a b x y h1 h3 hxy
      rw [h2, h4, this]
    · exact absurd (by rw [← hxy]; exact hD1.2 a x h1) (apart j y h3 h4).2
    · exact absurd (by rw [hxy]; exact hD1.2 b y h3) (apart i x h1 h2).2
    · exact hD.1 i j x y h2 h4 hxy
  · rcases zv_put_spec isC ws w1 hle hil k q hq with ⟨j, h1, -⟩ | ⟨h1, h2⟩
    · exact hF q.1 (hD1.2 j q h1)
    · exact hD.2 k q h2
section ZC
variable {x : zv_X} {l : Launch} {R : Room} {D : va_G} {cl : List vw_C} {tys : List (ClassId × FieldType)} {nL : Nat} {cc : ByteArray} {own : String} {Ts : List Jvm.Cond}
variable {S : Type} {y : MethodName} {wds : List Jvm.Cond} {rm : Room} {wc : va_W} {post : S → Prop} {ret : S → Option Value} {w1 : S → va_W} {As : List Value} {pc nx : Nat} {lv : zv_L} {st rest : List Value} {ws : va_W} {ce sl index maxL n : Nat} {bytes : ByteArray} {rt : Option FieldType}
/-- what a run of a call gives, in the walking layer's words -/
theorem zv_back {p : Program} {e : Env} {s : State} {m : MethodId} {args : Array Value} {below : List Frame} {meth : Method} {c : Code} {A : Nat → Prop} {Q : State → Prop} {H : Heap} {locs : List Loc} {ls : Array Slot} {a0 : Array Value}
    (hK : va_K D cl tys s) (hP : va_P D cl ws H) (hD : va_D A ws) (hS : va_S A s.heap H locs) (hl : lv_has ls nL lv) (hA : ∀ q, s.heap.size ≤ q → A q)
    (hr : va_Run p l e R s m args below meth c H locs ce sl rm.cells rm.slots (F0 m pc ls st) rest (zv_Post D cl tys wc H.size post ret w1 a0) (va_A wc H.size))
    (isC : List Nat) (hC : isC.map (fun i => ws[i]?) = wc.map some) (hnd : va_nd isC = true) (hle : ∀ u, isC.length ≤ (w1 u).length)
    (k : ∀ u, post u → zv_V (p, e, s, m, args, below, meth, c, A, Q) (l, R, D, cl, tys, nL, cc, own, Ts) (pc + 3) lv ((ret u).toList ++ rest) (zv_put ws isC (w1 u)) (ce + rm.cells) (sl + rm.slots)) : W p l e R s m args below meth c H locs ce sl Q (F0 m pc ls st) := by
  have hFc := va_free (wc := wc) hD hS hA isC hC
  intro T hT X
  obtain ⟨v, st₀, t, T', L, h0, X', hL, e1, e2, ⟨⟨u, hv, hp, hP1, hK1, hD1⟩, hz, hk⟩, st⟩ := hr T hT X
  cases hv
  rw [h0] at hz hk
  have hkk : ∀ q : Nat, q < H.size → ¬ va_A wc H.size q → T'.heap[q]? = H[q]? := fun q h1 h2 => by rw [e1]; exact hk q h1 h2
  obtain ⟨hP2, hD2⟩ := zv_join hP hD isC hC hnd (hle u) hkk hFc (by rw [e1]; exact hP1) hD1
  obtain ⟨t2, a1, b1⟩ := k u hp T'.heap (locs ++ L) ls hP2 hD2 ⟨Nat.le_trans hS.1 (by rw [e1]; exact hz), fun q h1 h2 => by rw [hkk q (Nat.lt_of_lt_of_le h1 hS.1) (fun z => h2 (hFc q z))]; exact hS.2.1 q h1 h2, fun q hq => by
      rcases List.mem_append.mp hq with h | h
      · exact hS.2.2 q h
      · exact hFc _ (hL q h)⟩ hl T' rfl X'
  exact ⟨t2, st t2 a1, b1⟩
theorem zv_sub {wc ws : va_W} (isC : List Nat) (hC : isC.map (fun i => ws[i]?) = wc.map some) : isC.filterMap (fun i => ws[i]?) = wc := by
  have h := congrArg (List.filterMap id) hC
  rw [List.filterMap_map, List.filterMap_map] at h
  simpa [Function.comp_def] using h
theorem zv_callV (C : zv_C x (l, R, D, cl, tys, nL, cc, own, Ts)) {b : Nat} (hM : zv_M l D cl tys y wds rm (.ref b :: As) wc post ret w1)
    (cw : ∀ (s : State) (args : Array Value), (∀ w ∈ Ts, w.before args s = true) → CallW R s args own y.cls index y bytes maxL rt wds rm rm.cells rm.slots n)
    (isC : List Nat) (q0 : Nat) {ci : Nat} {fs : List Value} {T : u_T} {N : Nat} (hrec : ws[q0]? = some (b, .inr (ci, fs))) (hcl : cl[ci]? = some (y.cls, T, N)) (hC : isC.map (fun i => ws[i]?) = wc.map some) (hnd : va_nd isC = true) (hle : ∀ u, isC.length ≤ (w1 u).length)
    (hst : st = As.reverse ++ .ref b :: rest) (hn : As.length = n) (hrest : (rest.map fun v => v.category).sum ≤ 8) (hdg : decode cc pc = .ok (.invokevirtual index, 3)) (hcells : ce + rm.cells ≤ R.cells) (hslots : sl + rm.slots ≤ R.slots) (hnx : pc + 3 = nx)
    (k : ∀ u, post u → zv_V x (l, R, D, cl, tys, nL, cc, own, Ts) nx lv ((ret u).toList ++ rest) (zv_put ws isC (w1 u)) (ce + rm.cells) (sl + rm.slots)) : zv_V x (l, R, D, cl, tys, nL, cc, own, Ts) pc lv st ws ce sl := by
  subst hnx
  obtain ⟨p, e, s, m, args, below, meth, c, A, Q⟩ := x
  obtain ⟨hx, hb, hml, hown, hts, hK, hA, hE, hct⟩ := C
  intro H locs ls hP hD hS hl
  subst hst
  refine zv_back (cc := cc) (own := own) (Ts := Ts) (nL := nL) hK hP hD hS hl hA (va_runV (As := As) (rest := rest) ⟨hx, hb, hml, hown, hts⟩ (hM H.size) (cw s args hts) ⟨zv_Pre_blind, va_recv hK hP (ci := ci) (q0 := q0) hcl hrec, fun U hU hW => ⟨rfl, by rw [hU], by rw [hU]; exact hP.sub isC (zv_sub isC hC), va_K.moved hW.alike hK, (hD.sub isC hnd hC).weaken (fun _ _ _ _ => trivial), zv_E.moved hW hE⟩⟩ rfl hn hl.1 rfl (lv_room hrest) hdg ⟨hcells, hslots⟩) isC hC hnd hle k
theorem zv_callS (C : zv_C x (l, R, D, cl, tys, nL, cc, own, Ts)) (hM : zv_M l D cl tys y wds rm As wc post ret w1)
    (cw : ∀ (s : State) (args : Array Value), (∀ w ∈ Ts, w.before args s = true) → CallB R s args own index y bytes maxL rt wds rm rm.cells rm.slots n ∧ (Jvm.Cond.static y).before args s = true)
    (isC : List Nat) (hC : isC.map (fun i => ws[i]?) = wc.map some) (hnd : va_nd isC = true) (hle : ∀ u, isC.length ≤ (w1 u).length)
    (hst : st = As.reverse ++ rest) (hn : As.length = n) (hrest : (rest.map fun v => v.category).sum ≤ 8) (hdg : decode cc pc = .ok (.invokestatic index, 3)) (hcells : ce + rm.cells ≤ R.cells) (hslots : sl + rm.slots ≤ R.slots) (hnx : pc + 3 = nx)
    (k : ∀ u, post u → zv_V x (l, R, D, cl, tys, nL, cc, own, Ts) nx lv ((ret u).toList ++ rest) (zv_put ws isC (w1 u)) (ce + rm.cells) (sl + rm.slots)) : zv_V x (l, R, D, cl, tys, nL, cc, own, Ts) pc lv st ws ce sl := by
  subst hnx
  obtain ⟨p, e, s, m, args, below, meth, c, A, Q⟩ := x
  obtain ⟨hx, hb, hml, hown, hts, hK, hA, hE, hct⟩ := C
  intro H locs ls hP hD hS hl
  subst hst
  refine zv_back (cc := cc) (own := own) (Ts := Ts) (nL := nL) hK hP hD hS hl hA (va_runS (As := As) (rest := rest) ⟨hx, hb, hml, hown, hts⟩ (hM H.size) (cw s args hts) ⟨zv_Pre_blind, fun U hU hW => ⟨rfl, by rw [hU], by rw [hU]; exact hP.sub isC (zv_sub isC hC), va_K.moved hW.alike hK, (hD.sub isC hnd hC).weaken (fun _ _ _ _ => trivial), zv_E.moved hW hE⟩⟩ rfl hn hl.1 rfl (lv_room hrest) hdg ⟨hcells, hslots⟩) isC hC hnd hle k
theorem zv_callI (C : zv_C x (l, R, D, cl, tys, nL, cc, own, Ts)) {b : Nat} (hM : zv_M l D cl tys y wds rm (.ref b :: As) wc post ret w1)
    (cw : ∀ (s : State) (args : Array Value), (∀ w ∈ Ts, w.before args s = true) → CallB R s args own index y bytes maxL none wds rm rm.cells rm.slots n ∧ y.name = "<init>" ∧ (Jvm.Cond.instanceMethod y).before args s = true)
    (isC : List Nat) (hC : isC.map (fun i => ws[i]?) = wc.map some) (hnd : va_nd isC = true) (hle : ∀ u, isC.length ≤ (w1 u).length)
    (hst : st = As.reverse ++ .ref b :: rest) (hn : As.length = n) (hrest : (rest.map fun v => v.category).sum ≤ 8) (hdg : decode cc pc = .ok (.invokespecial index, 3)) (hcells : ce + rm.cells ≤ R.cells) (hslots : sl + rm.slots ≤ R.slots) (hnx : pc + 3 = nx)
    (k : ∀ u, post u → zv_V x (l, R, D, cl, tys, nL, cc, own, Ts) nx lv ((ret u).toList ++ rest) (zv_put ws isC (w1 u)) (ce + rm.cells) (sl + rm.slots)) : zv_V x (l, R, D, cl, tys, nL, cc, own, Ts) pc lv st ws ce sl := by
  subst hnx
  obtain ⟨p, e, s, m, args, below, meth, c, A, Q⟩ := x
  obtain ⟨hx, hb, hml, hown, hts, hK, hA, hE, hct⟩ := C
  intro H locs ls hP hD hS hl
  subst hst
  refine zv_back (cc := cc) (own := own) (Ts := Ts) (nL := nL) hK hP hD hS hl hA (va_runI (As := As) (rest := rest) ⟨hx, hb, hml, hown, hts⟩ (hM H.size) (cw s args hts) ⟨zv_Pre_blind, fun U hU hW => ⟨rfl, by rw [hU], by rw [hU]; exact hP.sub isC (zv_sub isC hC), va_K.moved hW.alike hK, (hD.sub isC hnd hC).weaken (fun _ _ _ _ => trivial), zv_E.moved hW hE⟩⟩ rfl hn hl.1 rfl (lv_room hrest) hdg ⟨hcells, hslots⟩) isC hC hnd hle k
theorem zv_callSN (C : zv_C x (l, R, D, cl, tys, nL, cc, own, Ts)) (hM : zv_M l D cl tys y wds rm As wc post ret w1) {host : String} (hlk : (own, index, y, host) ∈ zv_nl)
    (cw : ∀ (s : State) (args : Array Value), (∀ w ∈ Ts, w.before args s = true) → va_Nw (.methodLinkNest own index y host) s → va_CN R s args own index y host bytes maxL rt wds rm rm.cells rm.slots n ∧ (Jvm.Cond.static y).before args s = true ∧ True)
    (isC : List Nat) (hC : isC.map (fun i => ws[i]?) = wc.map some) (hnd : va_nd isC = true) (hle : ∀ u, isC.length ≤ (w1 u).length)
    (hst : st = As.reverse ++ rest) (hn : As.length = n) (hrest : (rest.map fun v => v.category).sum ≤ 8) (hdg : decode cc pc = .ok (.invokestatic index, 3)) (hcells : ce + rm.cells ≤ R.cells) (hslots : sl + rm.slots ≤ R.slots) (hnx : pc + 3 = nx)
    (k : ∀ u, post u → zv_V x (l, R, D, cl, tys, nL, cc, own, Ts) nx lv ((ret u).toList ++ rest) (zv_put ws isC (w1 u)) (ce + rm.cells) (sl + rm.slots)) : zv_V x (l, R, D, cl, tys, nL, cc, own, Ts) pc lv st ws ce sl := by
  subst hnx
  obtain ⟨p, e, s, m, args, below, meth, c, A, Q⟩ := x
  obtain ⟨hx, hb, hml, hown, hts, hK, hA, hE, hct⟩ := C
  intro H locs ls hP hD hS hl
  subst hst
  refine zv_back (cc := cc) (own := own) (Ts := Ts) (nL := nL) hK hP hD hS hl hA (va_runSN (As := As) (rest := rest) ⟨hx, hb, hml, hown, hts⟩ (hM H.size) (cw s args hts (hE _ hlk)) ⟨zv_Pre_blind, fun U hU hW => ⟨rfl, by rw [hU], by rw [hU]; exact hP.sub isC (zv_sub isC hC), va_K.moved hW.alike hK, (hD.sub isC hnd hC).weaken (fun _ _ _ _ => trivial), zv_E.moved hW hE⟩⟩ rfl hn hl.1 rfl (lv_room hrest) hdg ⟨hcells, hslots⟩) isC hC hnd hle k
theorem zv_callIN (C : zv_C x (l, R, D, cl, tys, nL, cc, own, Ts)) {b : Nat} (hM : zv_M l D cl tys y wds rm (.ref b :: As) wc post ret w1) {host : String} (hlk : (own, index, y, host) ∈ zv_nl)
    (cw : ∀ (s : State) (args : Array Value), (∀ w ∈ Ts, w.before args s = true) → va_Nw (.methodLinkNest own index y host) s → va_CN R s args own index y host bytes maxL none wds rm rm.cells rm.slots n ∧ y.name = "<init>" ∧ (Jvm.Cond.instanceMethod y).before args s = true)
    (isC : List Nat) (hC : isC.map (fun i => ws[i]?) = wc.map some) (hnd : va_nd isC = true) (hle : ∀ u, isC.length ≤ (w1 u).length)
    (hst : st = As.reverse ++ .ref b :: rest) (hn : As.length = n) (hrest : (rest.map fun v => v.category).sum ≤ 8) (hdg : decode cc pc = .ok (.invokespecial index, 3)) (hcells : ce + rm.cells ≤ R.cells) (hslots : sl + rm.slots ≤ R.slots) (hnx : pc + 3 = nx)
    (k : ∀ u, post u → zv_V x (l, R, D, cl, tys, nL, cc, own, Ts) nx lv ((ret u).toList ++ rest) (zv_put ws isC (w1 u)) (ce + rm.cells) (sl + rm.slots)) : zv_V x (l, R, D, cl, tys, nL, cc, own, Ts) pc lv st ws ce sl := by
  subst hnx
  obtain ⟨p, e, s, m, args, below, meth, c, A, Q⟩ := x
  obtain ⟨hx, hb, hml, hown, hts, hK, hA, hE, hct⟩ := C
  intro H locs ls hP hD hS hl
  subst hst
  refine zv_back (cc := cc) (own := own) (Ts := Ts) (nL := nL) hK hP hD hS hl hA (va_runIN (As := As) (rest := rest) ⟨hx, hb, hml, hown, hts⟩ (hM H.size) (cw s args hts (hE _ hlk)) ⟨zv_Pre_blind, fun U hU hW => ⟨rfl, by rw [hU], by rw [hU]; exact hP.sub isC (zv_sub isC hC), va_K.moved hW.alike hK, (hD.sub isC hnd hC).weaken (fun _ _ _ _ => trivial), zv_E.moved hW hE⟩⟩ rfl hn hl.1 rfl (lv_room hrest) hdg ⟨hcells, hslots⟩) isC hC hnd hle k
end ZC
end
section
/-! ENTRY, RETURN, NEW, ARRAYS over the walking layer -/
def zv_rok (cc : ByteArray) (pc : Nat) : Option FieldType → Option Value → Prop
  | none, none => decode cc pc = .ok (.return_, 1)
  | some .int, some (.int _) => decode cc pc = .ok (.ireturn, 1)
  | some .boolean, some (.int v) => narrow .boolean (.int v) = .int v ∧ decode cc pc = .ok (.ireturn, 1)
  | some .long, some (.long _) => decode cc pc = .ok (.lreturn, 1)
  | some (.array _), some (.ref _) => decode cc pc = .ok (.areturn, 1)
  | _, _ => False
/-- the end of a method: its answer, its cells by their places -/
def zv_Rt {S : Type} (x : zv_X) (g : zv_G) (rt : Option FieldType) (rm : Room) (post : S → Prop) (ret : S → Option Value) (w1 : S → va_W) : Prop :=
  ∀ (u : S) (pc : Nat) (lv : zv_L) (ws : va_W) (ce sl : Nat) (is : List Nat), post u → is.map (fun i => ws[i]?) = (w1 u).map some → va_nd is = true → ce ≤ rm.cells → sl ≤ rm.slots → zv_rok g.2.2.2.2.2.2.1 pc rt (ret u) → zv_V x g pc lv (ret u).toList ws ce sl
def zv_nm (x : zv_X) (nm : String) : Prop := x.2.2.2.2.2.2.1.name = nm
set_option maxHeartbeats 1000000 in
theorem zv_of {S : Type} {l : Launch} {D : va_G} {cl : List vw_C} {tys : List (ClassId × FieldType)} {y : MethodName} {wds ws' Ts : List Jvm.Cond} {rm : Room} {ar : List Value} {wc : va_W} {post : S → Prop} {ret : S → Option Value} {w1 : S → va_W} {cc : ByteArray} {maxL : Nat} {rt : Option FieldType}
    (hy : plainName y.cls = true) (hw : wds = Jvm.Cond.code y cc maxL rt :: ws') (hsub : ∀ w ∈ Ts, w ∈ wds) (hct : zv_cl cl Ts = true) (hlen : (lg_sl ar).length ≤ maxL)
    (body : ∀ x : zv_X, zv_C x (l, rm, D, cl, tys, maxL, cc, y.cls, Ts) → zv_Rt x (l, rm, D, cl, tys, maxL, cc, y.cls, Ts) rt rm post ret w1 → zv_nm x y.name → zv_V x (l, rm, D, cl, tys, maxL, cc, y.cls, Ts) 0 (lv_args 0 ar) [] wc 0 0) : zv_M l D cl tys y wds rm ar wc post ret w1 := by
  intro sz
  refine Met.ofW (cc := cc) (maxL := maxL) (ret := rt) hy hw ?_
  intro p e s m args below meth c s₁ B hml hv
  obtain ⟨rfl, hsz, hP, hK, hD0, hE⟩ := hv
  subst hsz
  have hx := B.exec
  have hb := B.bytes
  have hr := B.returns
  have hts := atoms_spec (ws := wds) B.pre
  have hown : s.vm.findClass y.cls = some m.cls := findClass_of_methodNamed B.named
  have hlocks := B.notSynchronized
  have hin : meth.name = y.name := (name_of_methodNamed B.named B.method).1
  have hD := hD0.self (sz := s.heap.size)
  have hA : ∀ q : Nat, s.heap.size ≤ q → va_A wc s.heap.size q := fun q h => Or.inr h
  have hl := lv_entry ar (n := maxL) hlen
  rw [lg_entry_eq]
  refine body (p, e, s, m, ar.toArray, below, meth, c, va_A wc s.heap.size, MQ below (zv_Post D cl tys wc s.heap.size post ret w1) ar.toArray s rm.cells rm.slots (va_A wc s.heap.size)) ⟨hx, hb, hml, hown, fun w h => hts w (hsub w h), hK, hA, hE, hct⟩ ?_ hin s.heap [] _ hP hD va_S.rf hl
  intro u pc lv ws ce sl is hp hC hnd hce hsl hrok H locs ls hP hD hS hl
  refine W.widen (k := rm.cells) (n := rm.slots) hce hsl ?_
  have hq : ∀ t : State, t.heap = H → s.WarmedH t.vm → zv_Post D cl tys wc s.heap.size post ret w1 ar.toArray s (.returned (ret u)) t := fun t ht hW => ⟨⟨u, rfl, hp, by rw [ht]; exact hP.sub is (zv_sub is hC), va_K.moved hW.alike hK, hD.sub is hnd hC⟩, hS.F ht⟩
  generalize hru : ret u = r at hrok hq ⊢
  match rt, r, hrok, hr with
  | none, none, h, hr => exact W.vret hx hb hr hq hS.2.2 h hlocks
  | some .int, some (.int v), h, hr => exact W.iret hx hb hr hq hS.2.2 h hlocks
  | some .boolean, some (.int v), h, hr => exact W.zret hx hb hr h.1 hq hS.2.2 h.2 hlocks
  | some .long, some (.long v), h, hr => exact W.lret hx hb hr hq hS.2.2 h hlocks
  | some (.array t), some (.ref v), h, hr => exact W.aret hx hb hr (Or.inr ⟨t, rfl⟩) (Or.inr ⟨v, rfl⟩) hq hS.2.2 h hlocks
section ZN
variable {x : zv_X} {l : Launch} {R : Room} {D : va_G} {cl : List vw_C} {tys : List (ClassId × FieldType)} {nL : Nat} {cc : ByteArray} {own : String} {Ts : List Jvm.Cond}
variable {pc nx : Nat} {lv lv' : zv_L} {st rest : List Value} {ws ws' : va_W} {ce sl ce' sl' : Nat}
/-- fewer locals known, more room taken -/
theorem zv_drop (C : zv_C x (l, R, D, cl, tys, nL, cc, own, Ts)) (ks : List Nat) (h : lv_pick lv ks = lv') (k : zv_V x (l, R, D, cl, tys, nL, cc, own, Ts) pc lv' st ws ce sl) : zv_V x (l, R, D, cl, tys, nL, cc, own, Ts) pc lv st ws ce sl := by
  obtain ⟨p, e, s, m, args, below, meth, c, A, Q⟩ := x
  intro H locs ls hP hD hS hl
  exact k H locs ls hP hD hS (lv_sub hl ks h)
theorem zv_wide (C : zv_C x (l, R, D, cl, tys, nL, cc, own, Ts)) (h1 : ce ≤ ce') (h2 : sl ≤ sl') (k : zv_V x (l, R, D, cl, tys, nL, cc, own, Ts) pc lv st ws ce' sl') : zv_V x (l, R, D, cl, tys, nL, cc, own, Ts) pc lv st ws ce sl := by
  obtain ⟨p, e, s, m, args, below, meth, c, A, Q⟩ := x
  intro H locs ls hP hD hS hl
  exact W.widen h1 h2 (k H locs ls hP hD hS hl)
/-- fewer cells, or in another order -/
theorem zv_cells (C : zv_C x (l, R, D, cl, tys, nL, cc, own, Ts)) (is : List Nat) (hn : va_nd is = true) (h : is.map (fun i => ws[i]?) = ws'.map some) (k : zv_V x (l, R, D, cl, tys, nL, cc, own, Ts) pc lv st ws' ce sl) : zv_V x (l, R, D, cl, tys, nL, cc, own, Ts) pc lv st ws ce sl := by
  obtain ⟨p, e, s, m, args, below, meth, c, A, Q⟩ := x
  intro H locs ls hP hD hS hl
  exact k H locs ls (hP.sub is (zv_sub is h)) (hD.sub is hn h) hS hl
/-- the words of 'new' -/
def zv_nwk (own : String) (Ts : List Jvm.Cond) (cl : List vw_C) (index ci : Nat) : Bool := match cl[ci]? with
  | some (C, _, N) => decide (Jvm.Cond.classLink own index C ∈ Ts) && (decide (Jvm.Cond.instantiable C N ∈ Ts) && decide (Jvm.Cond.initialized C ∈ Ts))
  | none => false
theorem zv_new (C : zv_C x (l, R, D, cl, tys, nL, cc, own, Ts)) {index ci : Nat} {Cn : String} {T : u_T} {N : Nat} {fs : List Value} (hc : cl[ci]? = some (Cn, T, N)) (hk : zv_nwk own Ts cl index ci = true) (hfs : (List.range N).map (fun j => defaultValue (zv_ty T j)) = fs) (hdg : decode cc pc = .ok (.new index, 3)) (hcells : ce + 1 ≤ R.cells) (hslots : sl + N ≤ R.slots) (hnx : pc + 3 = nx)
    (k : ∀ q : Nat, zv_V x (l, R, D, cl, tys, nL, cc, own, Ts) nx lv (.ref q :: st) (ws ++ [(q, .inr (ci, fs))]) (ce + 1) (sl + N)) : zv_V x (l, R, D, cl, tys, nL, cc, own, Ts) pc lv st ws ce sl := by
  subst hnx
  unfold zv_nwk at hk
  rw [hc] at hk
  simp only [Bool.and_eq_true, decide_eq_true_eq] at hk
  obtain ⟨h1, h2, h3⟩ := hk
  obtain ⟨p, e, s, m, args, below, meth, c, A, Q⟩ := x
  obtain ⟨hx, hb, hml, hown, hts, hK, hA, hE, hct⟩ := C
  intro H locs ls hP hD hS hl
  obtain ⟨h4, hty0, -⟩ := zv_cl_e hct hc
  refine va_new (ci := ci) (fs := fs) hx hb hts h4 (zv_ty T) hty0 hown (hts _ h1) (hts _ h2) (hts _ h3) hK hP hD hS hA hc (fun j hj => ?_) hcells hslots hdg (fun q H hP hD hS => k q H locs ls hP hD hS hl)
  rw [← hfs]
  simp [vp_V, hj]
theorem zv_arr1 {s : State} {c1 c2 : ClassId} {ty : FieldType} {kd : Nat} (hty : ty = zv_k2t kd) (h1 : va_RA s c1 ty) (h2 : va_RA s c2 ty) : c1 = c2 := by
  subst hty
  have e : ∀ kd, va_RA s c1 (zv_k2t kd) → va_RA s c2 (zv_k2t kd) → c1 = c2 := by
    intro kd h1 h2
    unfold zv_k2t at h1 h2
    cases h3 : Nat.beq kd 0 with
    | true => rw [h3] at h1 h2; exact Option.some.inj (h1.symm.trans h2)
    | false =>
      cases h4 : Nat.beq kd 1 with
      | true => rw [h3, h4] at h1 h2; exact Option.some.inj (h1.symm.trans h2)
      | false =>
        cases h5 : Nat.beq kd 2 with
        | true => rw [h3, h4, h5] at h1 h2; exact Option.some.inj (h1.symm.trans h2)
        | false => rw [h3, h4, h5] at h1 h2; exact Option.some.inj (h1.symm.trans h2)
  exact e kd h1 h2
theorem zv_newa (C : zv_C x (l, R, D, cl, tys, nL, cc, own, Ts)) {atype : ArrayType} (kd t0 : Nat) {cA : ClassId} {N' : Nat} {a0 : vp_A} {n : Int32} (hty : newarray.typeOf atype = zv_k2t kd) (harr : Jvm.Cond.arrayClass (newarray.typeOf atype) ∈ Ts) (ht : tys[t0]? = some (cA, zv_k2t kd)) (ha : ∀ cA : ClassId, vp_cell cA a0 = arrV cA N' (fun _ => defaultValue (zv_k2t kd)))
    (hst : st = .int n :: rest) (hn : ¬ n < 0) (hN : n.toNatClampNeg = N') (hbytes : N' * componentBytes (zv_k2t kd) ≤ 536870912) (hdg : decode cc pc = .ok (.newarray atype, 2)) (hcells : ce + 1 ≤ R.cells) (hslots : sl + N' ≤ R.slots) (hnx : pc + 2 = nx)
    (k : ∀ q : Nat, zv_V x (l, R, D, cl, tys, nL, cc, own, Ts) nx lv (.ref q :: rest) (ws ++ [(q, .inl (cA, a0))]) (ce + 1) (sl + N')) : zv_V x (l, R, D, cl, tys, nL, cc, own, Ts) pc lv st ws ce sl := by
  subst hnx
  subst hst
  obtain ⟨p, e, s, m, args, below, meth, c, A, Q⟩ := x
  obtain ⟨hx, hb, hml, hown, hts, hK, hA, hE, hct⟩ := C
  intro H locs ls hP hD hS hl
  refine va_newa hx hb (hts _ harr) hty hK hP hD hS hA ha hn hN hbytes hcells hslots hdg (fun q c1 H1 hK1 hP hD hS => ?_)
  have e1 : c1 = cA := zv_arr1 rfl (hK1.2 tys.length (c1, zv_k2t kd) (by simp)).2 (hK.2 t0 _ ht).2
  subst e1
  exact k q H1 locs ls hP hD hS hl
theorem zv_objInit (C : zv_C x (l, R, D, cl, tys, nL, cc, own, Ts)) {index a : Nat} (h1 : Jvm.Cond.methodLink own index objectInit ∈ Ts) (h2 : Jvm.Cond.instanceMethod objectInit ∈ Ts) (h3 : Jvm.Cond.code objectInit ⟨#[0xb1]⟩ 1 none ∈ Ts) (hst : st = .ref a :: rest) (hdg : decode cc pc = .ok (.invokespecial index, 3)) (hf : 1 ≤ R.frames) (hloc : (rest.map fun v => v.category).sum + 12 ≤ R.locals) (hnx : pc + 3 = nx)
    (k : zv_V x (l, R, D, cl, tys, nL, cc, own, Ts) nx lv rest ws ce sl) : zv_V x (l, R, D, cl, tys, nL, cc, own, Ts) pc lv st ws ce sl := by
  subst hnx
  subst hst
  obtain ⟨p, e, s, m, args, below, meth, c, A, Q⟩ := x
  obtain ⟨hx, hb, hml, hown, hts, hK, hA, hE, hct⟩ := C
  intro H locs ls hP hD hS hl
  refine W.objInit hx hb hown (hts _ h1) (hts _ h2) (hts _ h3) rfl (by rw [hml]; exact hl.1) rfl hdg hf ?_ ?_
  · show 2 * 0 + _ + 12 ≤ _
    omega
  · exact k H locs ls hP hD hS hl
/-- a final field, in its constructor -/
theorem zv_putF (C : zv_C x (l, R, D, cl, tys, nL, cc, own, Ts)) (hin : zv_nm x "<init>") {index a : Nat} {v : Value} (q0 ci k kd : Nat) {Cn : String} {T : u_T} {N : Nat} {fs : List Value} (hc : cl[ci]? = some (Cn, T, N)) (hf : (zv_fld own Ts cl index ci k && (zv_fit cl ci k kd && zv_fin cl ci k true)) = true) (hdecl : (T k).1 = own) (hkd : zv_kd kd v = true) (hst : st = v :: .ref a :: rest) (hw : ws[q0]? = some (a, .inr (ci, fs))) (hlt : k < fs.length) (hdg : decode cc pc = .ok (.putfield index, 3)) (hnx : pc + 3 = nx)
    (kk : zv_V x (l, R, D, cl, tys, nL, cc, own, Ts) nx lv rest (ws.set q0 (a, .inr (ci, fs.set k v))) ce sl) : zv_V x (l, R, D, cl, tys, nL, cc, own, Ts) pc lv st ws ce sl := by
  subst hnx
  subst hst
  obtain ⟨p, e, s, m, args, below, meth, c, A, Q⟩ := x
  obtain ⟨hx, hb, hml, hown, hts, hK, hA, hE, hct⟩ := C
  simp only [Bool.and_eq_true] at hf
  obtain ⟨hf, hfit, hfin⟩ := hf
  obtain ⟨C1, T1, N1, hc1, hk, hlk⟩ := zv_fld_e hf
  cases hc.symm.trans hc1
  obtain ⟨hin1, hty0, hnm⟩ := zv_cl_e hct hc
  obtain ⟨ty, hty, hn, hfit⟩ := zv_fit_e hc hfit hkd
  intro H locs ls hP hD hS hl
  exact va_putF hx hb hts hin1 (zv_ty T) hty0 hnm hown hK hP hD hS q0 hw hc k hk (hts _ hlk) (fun _ h9 => h9) (zv_fin_e hc hfin) hin hdecl hty hn hfit hlt hdg (fun H locs hP hD hS => kk H locs ls hP hD hS hl)
end ZN
end
section
-- ===== PART A: goes FIRST, ahead of the names: the tables' words, and 'selects' of the private methods out of them =====
/-- a private method of a class that the tables say can be made, by its rows of tables_1 -/
def lw_okq (q : MethodName × Nat) : Prop := (q.1.cls ≠ "java/lang/invoke/MethodHandle" ∧ q.1.cls ≠ "java/lang/invoke/VarHandle") ∧ Cond.instantiable q.1.cls q.2 ∈ tables_1 ∧ Cond.privateMethod q.1 ∈ tables_1 ∧ Cond.instanceMethod q.1 ∈ tables_1
theorem lw_p0 : lw_okq (⟨"OrderDesk$Order", "changeBy", "(I)V"⟩, 4) := ⟨⟨by decide +kernel, by decide +kernel⟩, List.mem_of_getElem? (i := 24) (by decide +kernel), List.mem_of_getElem? (i := 262) (by decide +kernel), List.mem_of_getElem? (i := 263) (by decide +kernel)⟩
theorem lw_p1 : lw_okq (⟨"OrderDesk$LongestChain", "refresh", "()V"⟩, 5) := ⟨⟨by decide +kernel, by decide +kernel⟩, List.mem_of_getElem? (i := 81) (by decide +kernel), List.mem_of_getElem? (i := 299) (by decide +kernel), List.mem_of_getElem? (i := 300) (by decide +kernel)⟩
theorem lw_p2 : lw_okq (⟨"OrderDesk$LongestChain", "peelLayers", "()V"⟩, 5) := ⟨⟨by decide +kernel, by decide +kernel⟩, List.mem_of_getElem? (i := 81) (by decide +kernel), List.mem_of_getElem? (i := 303) (by decide +kernel), List.mem_of_getElem? (i := 304) (by decide +kernel)⟩
theorem lw_p3 : lw_okq (⟨"OrderDesk$LongestChain", "topsOf", "(I)I"⟩, 5) := ⟨⟨by decide +kernel, by decide +kernel⟩, List.mem_of_getElem? (i := 81) (by decide +kernel), List.mem_of_getElem? (i := 311) (by decide +kernel), List.mem_of_getElem? (i := 312) (by decide +kernel)⟩
theorem lw_p4 : lw_okq (⟨"OrderDesk$LongestChain", "climb", "()V"⟩, 5) := ⟨⟨by decide +kernel, by decide +kernel⟩, List.mem_of_getElem? (i := 81) (by decide +kernel), List.mem_of_getElem? (i := 315) (by decide +kernel), List.mem_of_getElem? (i := 316) (by decide +kernel)⟩
theorem lw_p5 : lw_okq (⟨"OrderDesk$LongestChain", "leastOf", "(I)I"⟩, 5) := ⟨⟨by decide +kernel, by decide +kernel⟩, List.mem_of_getElem? (i := 81) (by decide +kernel), List.mem_of_getElem? (i := 319) (by decide +kernel), List.mem_of_getElem? (i := 320) (by decide +kernel)⟩
theorem lw_p6 : lw_okq (⟨"OrderDesk$WidestApart", "choose", "()V"⟩, 4) := ⟨⟨by decide +kernel, by decide +kernel⟩, List.mem_of_getElem? (i := 103) (by decide +kernel), List.mem_of_getElem? (i := 327) (by decide +kernel), List.mem_of_getElem? (i := 328) (by decide +kernel)⟩
theorem lw_p7 : lw_okq (⟨"OrderDesk$Matching", "pairUp", "(II)Z"⟩, 4) := ⟨⟨by decide +kernel, by decide +kernel⟩, List.mem_of_getElem? (i := 62) (by decide +kernel), List.mem_of_getElem? (i := 341) (by decide +kernel), List.mem_of_getElem? (i := 342) (by decide +kernel)⟩
theorem lw_p8 : lw_okq (⟨"OrderDesk$RowTable", "refreshBeginnings", "()V"⟩, 6) := ⟨⟨by decide +kernel, by decide +kernel⟩, List.mem_of_getElem? (i := 141) (by decide +kernel), List.mem_of_getElem? (i := 350) (by decide +kernel), List.mem_of_getElem? (i := 351) (by decide +kernel)⟩
theorem lw_p9 : lw_okq (⟨"OrderDesk$RowTable", "makeRoom", "(I)V"⟩, 6) := ⟨⟨by decide +kernel, by decide +kernel⟩, List.mem_of_getElem? (i := 141) (by decide +kernel), List.mem_of_getElem? (i := 354) (by decide +kernel), List.mem_of_getElem? (i := 355) (by decide +kernel)⟩
theorem lw_p10 : lw_okq (⟨"OrderDesk$RowTable", "countBeginnings", "()V"⟩, 6) := ⟨⟨by decide +kernel, by decide +kernel⟩, List.mem_of_getElem? (i := 141) (by decide +kernel), List.mem_of_getElem? (i := 358) (by decide +kernel), List.mem_of_getElem? (i := 359) (by decide +kernel)⟩
theorem lw_p11 : lw_okq (⟨"OrderDesk$RowTable", "handOn", "(II)V"⟩, 6) := ⟨⟨by decide +kernel, by decide +kernel⟩, List.mem_of_getElem? (i := 141) (by decide +kernel), List.mem_of_getElem? (i := 366) (by decide +kernel), List.mem_of_getElem? (i := 367) (by decide +kernel)⟩
theorem lw_p12 : lw_okq (⟨"OrderDesk$CutList", "refresh", "()V"⟩, 4) := ⟨⟨by decide +kernel, by decide +kernel⟩, List.mem_of_getElem? (i := 167) (by decide +kernel), List.mem_of_getElem? (i := 374) (by decide +kernel), List.mem_of_getElem? (i := 375) (by decide +kernel)⟩
theorem lw_p13 : lw_okq (⟨"OrderDesk$CutList", "list", "()V"⟩, 4) := ⟨⟨by decide +kernel, by decide +kernel⟩, List.mem_of_getElem? (i := 167) (by decide +kernel), List.mem_of_getElem? (i := 378) (by decide +kernel), List.mem_of_getElem? (i := 379) (by decide +kernel)⟩
theorem lw_p14 : lw_okq (⟨"OrderDesk$CutList", "close", "(I)I"⟩, 4) := ⟨⟨by decide +kernel, by decide +kernel⟩, List.mem_of_getElem? (i := 167) (by decide +kernel), List.mem_of_getElem? (i := 383) (by decide +kernel), List.mem_of_getElem? (i := 384) (by decide +kernel)⟩
theorem lw_p15 : lw_okq (⟨"OrderDesk$CutList", "append", "(I)V"⟩, 4) := ⟨⟨by decide +kernel, by decide +kernel⟩, List.mem_of_getElem? (i := 167) (by decide +kernel), List.mem_of_getElem? (i := 389) (by decide +kernel), List.mem_of_getElem? (i := 390) (by decide +kernel)⟩
def lw_privs_1 : List (MethodName × Nat) := [(⟨"OrderDesk$Order", "changeBy", "(I)V"⟩, 4), (⟨"OrderDesk$LongestChain", "refresh", "()V"⟩, 5), (⟨"OrderDesk$LongestChain", "peelLayers", "()V"⟩, 5), (⟨"OrderDesk$LongestChain", "topsOf", "(I)I"⟩, 5), (⟨"OrderDesk$LongestChain", "climb", "()V"⟩, 5), (⟨"OrderDesk$LongestChain", "leastOf", "(I)I"⟩, 5), (⟨"OrderDesk$WidestApart", "choose", "()V"⟩, 4), (⟨"OrderDesk$Matching", "pairUp", "(II)Z"⟩, 4), (⟨"OrderDesk$RowTable", "refreshBeginnings", "()V"⟩, 6), (⟨"OrderDesk$RowTable", "makeRoom", "(I)V"⟩, 6), (⟨"OrderDesk$RowTable", "countBeginnings", "()V"⟩, 6), (⟨"OrderDesk$RowTable", "handOn", "(II)V"⟩, 6), (⟨"OrderDesk$CutList", "refresh", "()V"⟩, 4), (⟨"OrderDesk$CutList", "list", "()V"⟩, 4), (⟨"OrderDesk$CutList", "close", "(I)I"⟩, 4), (⟨"OrderDesk$CutList", "append", "(I)V"⟩, 4)]
theorem lw_r1 : ∀ q ∈ lw_privs_1, lw_okq q := List.forall_mem_cons.mpr ⟨lw_p0, List.forall_mem_cons.mpr ⟨lw_p1, List.forall_mem_cons.mpr ⟨lw_p2, List.forall_mem_cons.mpr ⟨lw_p3, List.forall_mem_cons.mpr ⟨lw_p4, List.forall_mem_cons.mpr ⟨lw_p5, List.forall_mem_cons.mpr ⟨lw_p6, List.forall_mem_cons.mpr ⟨lw_p7, List.forall_mem_cons.mpr ⟨lw_p8, List.forall_mem_cons.mpr ⟨lw_p9, List.forall_mem_cons.mpr ⟨lw_p10, List.forall_mem_cons.mpr ⟨lw_p11, List.forall_mem_cons.mpr ⟨lw_p12, List.forall_mem_cons.mpr ⟨lw_p13, List.forall_mem_cons.mpr ⟨lw_p14, List.forall_mem_cons.mpr ⟨lw_p15, fun _ h => absurd h List.not_mem_nil⟩⟩⟩⟩⟩⟩⟩⟩⟩⟩⟩⟩⟩⟩⟩⟩
theorem lw_p16 : lw_okq (⟨"OrderDesk$CutList", "following", "(I)I"⟩, 4) := ⟨⟨by decide +kernel, by decide +kernel⟩, List.mem_of_getElem? (i := 167) (by decide +kernel), List.mem_of_getElem? (i := 409) (by decide +kernel), List.mem_of_getElem? (i := 410) (by decide +kernel)⟩
theorem lw_p17 : lw_okq (⟨"OrderDesk$Parts", "link", "()V"⟩, 4) := ⟨⟨by decide +kernel, by decide +kernel⟩, List.mem_of_getElem? (i := 122) (by decide +kernel), List.mem_of_getElem? (i := 433) (by decide +kernel), List.mem_of_getElem? (i := 434) (by decide +kernel)⟩
theorem lw_p18 : lw_okq (⟨"OrderDesk$Parts", "leastGoodLink", "(III)I"⟩, 4) := ⟨⟨by decide +kernel, by decide +kernel⟩, List.mem_of_getElem? (i := 122) (by decide +kernel), List.mem_of_getElem? (i := 439) (by decide +kernel), List.mem_of_getElem? (i := 440) (by decide +kernel)⟩
theorem lw_p19 : lw_okq (⟨"OrderDesk$RowTable", "refreshEndings", "()V"⟩, 6) := ⟨⟨by decide +kernel, by decide +kernel⟩, List.mem_of_getElem? (i := 141) (by decide +kernel), List.mem_of_getElem? (i := 460) (by decide +kernel), List.mem_of_getElem? (i := 461) (by decide +kernel)⟩
theorem lw_p20 : lw_okq (⟨"OrderDesk$RowTable", "countEndings", "()V"⟩, 6) := ⟨⟨by decide +kernel, by decide +kernel⟩, List.mem_of_getElem? (i := 141) (by decide +kernel), List.mem_of_getElem? (i := 464) (by decide +kernel), List.mem_of_getElem? (i := 465) (by decide +kernel)⟩
theorem lw_p21 : lw_okq (⟨"OrderDesk$RowTable", "sumOfEndings", "(II)J"⟩, 6) := ⟨⟨by decide +kernel, by decide +kernel⟩, List.mem_of_getElem? (i := 141) (by decide +kernel), List.mem_of_getElem? (i := 468) (by decide +kernel), List.mem_of_getElem? (i := 469) (by decide +kernel)⟩
theorem lw_p22 : lw_okq (⟨"OrderDesk$RowTable", "rowsWithStep", "(II)J"⟩, 6) := ⟨⟨by decide +kernel, by decide +kernel⟩, List.mem_of_getElem? (i := 141) (by decide +kernel), List.mem_of_getElem? (i := 472) (by decide +kernel), List.mem_of_getElem? (i := 473) (by decide +kernel)⟩
theorem lw_p23 : lw_okq (⟨"OrderDesk$RowTable", "rowsOnFrom", "(II)J"⟩, 6) := ⟨⟨by decide +kernel, by decide +kernel⟩, List.mem_of_getElem? (i := 141) (by decide +kernel), List.mem_of_getElem? (i := 476) (by decide +kernel), List.mem_of_getElem? (i := 477) (by decide +kernel)⟩
theorem lw_p24 : lw_okq (⟨"OrderDesk$MuRow", "makeRoom", "()V"⟩, 3) := ⟨⟨by decide +kernel, by decide +kernel⟩, List.mem_of_getElem? (i := 186) (by decide +kernel), List.mem_of_getElem? (i := 550) (by decide +kernel), List.mem_of_getElem? (i := 551) (by decide +kernel)⟩
theorem lw_p25 : lw_okq (⟨"OrderDesk$MuRow", "sumUnder", "(I)I"⟩, 3) := ⟨⟨by decide +kernel, by decide +kernel⟩, List.mem_of_getElem? (i := 186) (by decide +kernel), List.mem_of_getElem? (i := 559) (by decide +kernel), List.mem_of_getElem? (i := 560) (by decide +kernel)⟩
theorem lw_p26 : lw_okq (⟨"OrderDeskModel", "has", "(I)Z"⟩, 10) := ⟨⟨by decide +kernel, by decide +kernel⟩, List.mem_of_getElem? (i := 571) (by decide +kernel), List.mem_of_getElem? (i := 619) (by decide +kernel), List.mem_of_getElem? (i := 620) (by decide +kernel)⟩
theorem lw_p27 : lw_okq (⟨"OrderDeskModel", "is", "(II)Z"⟩, 10) := ⟨⟨by decide +kernel, by decide +kernel⟩, List.mem_of_getElem? (i := 571) (by decide +kernel), List.mem_of_getElem? (i := 623) (by decide +kernel), List.mem_of_getElem? (i := 624) (by decide +kernel)⟩
theorem lw_p28 : lw_okq (⟨"OrderDeskModel", "pairs", "()I"⟩, 10) := ⟨⟨by decide +kernel, by decide +kernel⟩, List.mem_of_getElem? (i := 571) (by decide +kernel), List.mem_of_getElem? (i := 627) (by decide +kernel), List.mem_of_getElem? (i := 628) (by decide +kernel)⟩
theorem lw_p29 : lw_okq (⟨"OrderDeskModel", "close", "([Z)V"⟩, 10) := ⟨⟨by decide +kernel, by decide +kernel⟩, List.mem_of_getElem? (i := 571) (by decide +kernel), List.mem_of_getElem? (i := 631) (by decide +kernel), List.mem_of_getElem? (i := 632) (by decide +kernel)⟩
theorem lw_p30 : lw_okq (⟨"OrderDeskModel", "all", "()I"⟩, 10) := ⟨⟨by decide +kernel, by decide +kernel⟩, List.mem_of_getElem? (i := 571) (by decide +kernel), List.mem_of_getElem? (i := 651) (by decide +kernel), List.mem_of_getElem? (i := 652) (by decide +kernel)⟩
theorem lw_p31 : lw_okq (⟨"OrderDeskModel", "isApart", "(I)Z"⟩, 10) := ⟨⟨by decide +kernel, by decide +kernel⟩, List.mem_of_getElem? (i := 571) (by decide +kernel), List.mem_of_getElem? (i := 658) (by decide +kernel), List.mem_of_getElem? (i := 659) (by decide +kernel)⟩
def lw_privs_2 : List (MethodName × Nat) := [(⟨"OrderDesk$CutList", "following", "(I)I"⟩, 4), (⟨"OrderDesk$Parts", "link", "()V"⟩, 4), (⟨"OrderDesk$Parts", "leastGoodLink", "(III)I"⟩, 4), (⟨"OrderDesk$RowTable", "refreshEndings", "()V"⟩, 6), (⟨"OrderDesk$RowTable", "countEndings", "()V"⟩, 6), (⟨"OrderDesk$RowTable", "sumOfEndings", "(II)J"⟩, 6), (⟨"OrderDesk$RowTable", "rowsWithStep", "(II)J"⟩, 6), (⟨"OrderDesk$RowTable", "rowsOnFrom", "(II)J"⟩, 6), (⟨"OrderDesk$MuRow", "makeRoom", "()V"⟩, 3), (⟨"OrderDesk$MuRow", "sumUnder", "(I)I"⟩, 3), (⟨"OrderDeskModel", "has", "(I)Z"⟩, 10), (⟨"OrderDeskModel", "is", "(II)Z"⟩, 10), (⟨"OrderDeskModel", "pairs", "()I"⟩, 10), (⟨"OrderDeskModel", "close", "([Z)V"⟩, 10), (⟨"OrderDeskModel", "all", "()I"⟩, 10), (⟨"OrderDeskModel", "isApart", "(I)Z"⟩, 10)]
theorem lw_r2 : ∀ q ∈ lw_privs_2, lw_okq q := List.forall_mem_cons.mpr ⟨lw_p16, List.forall_mem_cons.mpr ⟨lw_p17, List.forall_mem_cons.mpr ⟨lw_p18, List.forall_mem_cons.mpr ⟨lw_p19, List.forall_mem_cons.mpr ⟨lw_p20, List.forall_mem_cons.mpr ⟨lw_p21, List.forall_mem_cons.mpr ⟨lw_p22, List.forall_mem_cons.mpr ⟨lw_p23, List.forall_mem_cons.mpr ⟨lw_p24, List.forall_mem_cons.mpr ⟨lw_p25, List.forall_mem_cons.mpr ⟨lw_p26, List.forall_mem_cons.mpr ⟨lw_p27, List.forall_mem_cons.mpr ⟨lw_p28, List.forall_mem_cons.mpr ⟨lw_p29, List.forall_mem_cons.mpr ⟨lw_p30, List.forall_mem_cons.mpr ⟨lw_p31, fun _ h => absurd h List.not_mem_nil⟩⟩⟩⟩⟩⟩⟩⟩⟩⟩⟩⟩⟩⟩⟩⟩
theorem lw_p32 : lw_okq (⟨"OrderDeskModel", "findChain", "()I"⟩, 10) := ⟨⟨by decide +kernel, by decide +kernel⟩, List.mem_of_getElem? (i := 571) (by decide +kernel), List.mem_of_getElem? (i := 669) (by decide +kernel), List.mem_of_getElem? (i := 670) (by decide +kernel)⟩
theorem lw_p33 : lw_okq (⟨"OrderDeskModel", "isChain", "(I)Z"⟩, 10) := ⟨⟨by decide +kernel, by decide +kernel⟩, List.mem_of_getElem? (i := 571) (by decide +kernel), List.mem_of_getElem? (i := 673) (by decide +kernel), List.mem_of_getElem? (i := 674) (by decide +kernel)⟩
theorem lw_p34 : lw_okq (⟨"OrderDeskModel", "write", "(I[I)I"⟩, 10) := ⟨⟨by decide +kernel, by decide +kernel⟩, List.mem_of_getElem? (i := 571) (by decide +kernel), List.mem_of_getElem? (i := 677) (by decide +kernel), List.mem_of_getElem? (i := 678) (by decide +kernel)⟩
theorem lw_p35 : lw_okq (⟨"OrderDeskModel", "isIdeal", "(I)Z"⟩, 10) := ⟨⟨by decide +kernel, by decide +kernel⟩, List.mem_of_getElem? (i := 571) (by decide +kernel), List.mem_of_getElem? (i := 682) (by decide +kernel), List.mem_of_getElem? (i := 683) (by decide +kernel)⟩
theorem lw_p36 : lw_okq (⟨"OrderDeskModel", "findCuts", "()V"⟩, 10) := ⟨⟨by decide +kernel, by decide +kernel⟩, List.mem_of_getElem? (i := 571) (by decide +kernel), List.mem_of_getElem? (i := 686) (by decide +kernel), List.mem_of_getElem? (i := 687) (by decide +kernel)⟩
theorem lw_p37 : lw_okq (⟨"OrderDeskModel", "above", "(I)I"⟩, 10) := ⟨⟨by decide +kernel, by decide +kernel⟩, List.mem_of_getElem? (i := 571) (by decide +kernel), List.mem_of_getElem? (i := 690) (by decide +kernel), List.mem_of_getElem? (i := 691) (by decide +kernel)⟩
theorem lw_p38 : lw_okq (⟨"OrderDeskModel", "below", "(I)I"⟩, 10) := ⟨⟨by decide +kernel, by decide +kernel⟩, List.mem_of_getElem? (i := 571) (by decide +kernel), List.mem_of_getElem? (i := 694) (by decide +kernel), List.mem_of_getElem? (i := 695) (by decide +kernel)⟩
theorem lw_p39 : lw_okq (⟨"OrderDeskModel", "findGets", "()V"⟩, 10) := ⟨⟨by decide +kernel, by decide +kernel⟩, List.mem_of_getElem? (i := 571) (by decide +kernel), List.mem_of_getElem? (i := 706) (by decide +kernel), List.mem_of_getElem? (i := 707) (by decide +kernel)⟩
theorem lw_p40 : lw_okq (⟨"OrderDeskModel", "findOrders", "([Z)V"⟩, 10) := ⟨⟨by decide +kernel, by decide +kernel⟩, List.mem_of_getElem? (i := 571) (by decide +kernel), List.mem_of_getElem? (i := 714) (by decide +kernel), List.mem_of_getElem? (i := 715) (by decide +kernel)⟩
theorem lw_p41 : lw_okq (⟨"OrderDeskModel", "mayCome", "(II)Z"⟩, 10) := ⟨⟨by decide +kernel, by decide +kernel⟩, List.mem_of_getElem? (i := 571) (by decide +kernel), List.mem_of_getElem? (i := 731) (by decide +kernel), List.mem_of_getElem? (i := 732) (by decide +kernel)⟩
theorem lw_p42 : lw_okq (⟨"OrderDeskModel", "extreme", "(IZ)I"⟩, 10) := ⟨⟨by decide +kernel, by decide +kernel⟩, List.mem_of_getElem? (i := 571) (by decide +kernel), List.mem_of_getElem? (i := 748) (by decide +kernel), List.mem_of_getElem? (i := 749) (by decide +kernel)⟩
def lw_privs_3 : List (MethodName × Nat) := [(⟨"OrderDeskModel", "findChain", "()I"⟩, 10), (⟨"OrderDeskModel", "isChain", "(I)Z"⟩, 10), (⟨"OrderDeskModel", "write", "(I[I)I"⟩, 10), (⟨"OrderDeskModel", "isIdeal", "(I)Z"⟩, 10), (⟨"OrderDeskModel", "findCuts", "()V"⟩, 10), (⟨"OrderDeskModel", "above", "(I)I"⟩, 10), (⟨"OrderDeskModel", "below", "(I)I"⟩, 10), (⟨"OrderDeskModel", "findGets", "()V"⟩, 10), (⟨"OrderDeskModel", "findOrders", "([Z)V"⟩, 10), (⟨"OrderDeskModel", "mayCome", "(II)Z"⟩, 10), (⟨"OrderDeskModel", "extreme", "(IZ)I"⟩, 10)]
theorem lw_r3 : ∀ q ∈ lw_privs_3, lw_okq q := List.forall_mem_cons.mpr ⟨lw_p32, List.forall_mem_cons.mpr ⟨lw_p33, List.forall_mem_cons.mpr ⟨lw_p34, List.forall_mem_cons.mpr ⟨lw_p35, List.forall_mem_cons.mpr ⟨lw_p36, List.forall_mem_cons.mpr ⟨lw_p37, List.forall_mem_cons.mpr ⟨lw_p38, List.forall_mem_cons.mpr ⟨lw_p39, List.forall_mem_cons.mpr ⟨lw_p40, List.forall_mem_cons.mpr ⟨lw_p41, List.forall_mem_cons.mpr ⟨lw_p42, fun _ h => absurd h List.not_mem_nil⟩⟩⟩⟩⟩⟩⟩⟩⟩⟩⟩
def lw_privs : List (MethodName × Nat) := lw_privs_1 ++ (lw_privs_2 ++ (lw_privs_3))
def lw_tbl : List Cond := k2_sels lw_privs ++ tables_1
theorem lw_privs_ok : ∀ q ∈ lw_privs, lw_okq q := by
  show ∀ q ∈ lw_privs_1 ++ (lw_privs_2 ++ (lw_privs_3)), lw_okq q
  exact List.forall_mem_append.mpr ⟨lw_r1, List.forall_mem_append.mpr ⟨lw_r2, lw_r3⟩⟩
/-- the words that a contract carries (the links to nest mates stand in zv_nl) -/
def zk : Jvm.Cond → Bool
  | .fieldLink .. => true | .methodLink .. => true | .code .. => true | .instanceMethod .. => true | .selects .. => true | .initialized .. => true | .classLink .. => true | .instantiable .. => true | .lays .. => true | .laysFinal .. => true | .static .. => true | .native .. => true | .constant .. => true | .constantLong .. => true | .arrayClass .. => true
  | _ => false
def zt : List Jvm.Cond := lw_tbl.filter zk
theorem zk_good (w : Jvm.Cond) (h : zk w = true) : goodWord w = true := by cases w <;> first | rfl | cases h
theorem zt_good : ∀ w ∈ zt, goodWord w = true := fun w h => zk_good w (List.mem_filter.mp h).2
theorem zt_in : ∀ w ∈ zt, w ∈ lw_tbl := fun w h => (List.mem_filter.mp h).1
end
section
def RX0 : String := "OrderDesk$CutList"
def TX0 : u_T := fun k => match k with
  | 0 => ("OrderDesk$CutList", "order", "LOrderDesk$Order;", true)
  | 1 => ("OrderDesk$CutList", "sets", "[I", false)
  | 2 => ("OrderDesk$CutList", "length", "I", false)
  | _ => ("OrderDesk$CutList", "seen", "I", false)
abbrev cX0_init : ByteArray := prog_2_method_1_code
def yX0_init : MethodName := ⟨RX0, "<init>", "(LOrderDesk$Order;)V"⟩
abbrev cX0_length : ByteArray := prog_2_method_2_code
def yX0_length : MethodName := ⟨RX0, "length", "()I"⟩
abbrev cX0_has : ByteArray := prog_2_method_3_code
def yX0_has : MethodName := ⟨RX0, "has", "(I)Z"⟩
abbrev cX0_setOf : ByteArray := prog_2_method_4_code
def yX0_setOf : MethodName := ⟨RX0, "setOf", "(I)I"⟩
abbrev cX0_numberOfLeast : ByteArray := prog_2_method_5_code
def yX0_numberOfLeast : MethodName := ⟨RX0, "numberOfLeast", "(I)I"⟩
abbrev cX0_refresh : ByteArray := prog_2_method_6_code
def yX0_refresh : MethodName := ⟨RX0, "refresh", "()V"⟩
abbrev cX0_list : ByteArray := prog_2_method_7_code
def yX0_list : MethodName := ⟨RX0, "list", "()V"⟩
abbrev cX0_append : ByteArray := prog_2_method_8_code
def yX0_append : MethodName := ⟨RX0, "append", "(I)V"⟩
abbrev cX0_following : ByteArray := prog_2_method_9_code
def yX0_following : MethodName := ⟨RX0, "following", "(I)I"⟩
abbrev cX0_close : ByteArray := prog_2_method_10_code
def yX0_close : MethodName := ⟨RX0, "close", "(I)I"⟩
def RX1 : String := "OrderDesk$LongestChain"
def TX1 : u_T := fun k => match k with
  | 0 => ("OrderDesk$LongestChain", "order", "LOrderDesk$Order;", true)
  | 1 => ("OrderDesk$LongestChain", "layers", "[I", true)
  | 2 => ("OrderDesk$LongestChain", "things", "[I", true)
  | 3 => ("OrderDesk$LongestChain", "length", "I", false)
  | _ => ("OrderDesk$LongestChain", "seen", "I", false)
abbrev cX1_init : ByteArray := prog_3_method_1_code
def yX1_init : MethodName := ⟨RX1, "<init>", "(LOrderDesk$Order;)V"⟩
abbrev cX1_length : ByteArray := prog_3_method_2_code
def yX1_length : MethodName := ⟨RX1, "length", "()I"⟩
abbrev cX1_thingAt : ByteArray := prog_3_method_3_code
def yX1_thingAt : MethodName := ⟨RX1, "thingAt", "(I)I"⟩
abbrev cX1_refresh : ByteArray := prog_3_method_4_code
def yX1_refresh : MethodName := ⟨RX1, "refresh", "()V"⟩
abbrev cX1_peelLayers : ByteArray := prog_3_method_5_code
def yX1_peelLayers : MethodName := ⟨RX1, "peelLayers", "()V"⟩
abbrev cX1_topsOf : ByteArray := prog_3_method_6_code
def yX1_topsOf : MethodName := ⟨RX1, "topsOf", "(I)I"⟩
abbrev cX1_climb : ByteArray := prog_3_method_7_code
def yX1_climb : MethodName := ⟨RX1, "climb", "()V"⟩
abbrev cX1_leastOf : ByteArray := prog_3_method_8_code
def yX1_leastOf : MethodName := ⟨RX1, "leastOf", "(I)I"⟩
def RX2 : String := "OrderDesk$Matching"
def TX2 : u_T := fun k => match k with
  | 0 => ("OrderDesk$Matching", "order", "LOrderDesk$Order;", true)
  | 1 => ("OrderDesk$Matching", "partners", "[I", true)
  | 2 => ("OrderDesk$Matching", "uppers", "I", false)
  | _ => ("OrderDesk$Matching", "tried", "I", false)
abbrev cX2_init : ByteArray := prog_4_method_1_code
def yX2_init : MethodName := ⟨RX2, "<init>", "(LOrderDesk$Order;)V"⟩
abbrev cX2_most : ByteArray := prog_4_method_2_code
def yX2_most : MethodName := ⟨RX2, "most", "(II)I"⟩
abbrev cX2_widthOf : ByteArray := prog_4_method_3_code
def yX2_widthOf : MethodName := ⟨RX2, "widthOf", "(I)I"⟩
abbrev cX2_pairUp : ByteArray := prog_4_method_4_code
def yX2_pairUp : MethodName := ⟨RX2, "pairUp", "(II)Z"⟩
def RX3 : String := "OrderDesk$MuRow"
def TX3 : u_T := fun k => match k with
  | 0 => ("OrderDesk$MuRow", "sets", "[I", false)
  | 1 => ("OrderDesk$MuRow", "mus", "[I", false)
  | _ => ("OrderDesk$MuRow", "length", "I", false)
abbrev cX3_init : ByteArray := prog_5_method_1_code
def yX3_init : MethodName := ⟨RX3, "<init>", "()V"⟩
abbrev cX3_clear : ByteArray := prog_5_method_2_code
def yX3_clear : MethodName := ⟨RX3, "clear", "()V"⟩
abbrev cX3_add : ByteArray := prog_5_method_3_code
def yX3_add : MethodName := ⟨RX3, "add", "(I)V"⟩
abbrev cX3_ofFirstWithLast : ByteArray := prog_5_method_4_code
def yX3_ofFirstWithLast : MethodName := ⟨RX3, "ofFirstWithLast", "()I"⟩
abbrev cX3_sumUnder : ByteArray := prog_5_method_5_code
def yX3_sumUnder : MethodName := ⟨RX3, "sumUnder", "(I)I"⟩
abbrev cX3_makeRoom : ByteArray := prog_5_method_6_code
def yX3_makeRoom : MethodName := ⟨RX3, "makeRoom", "()V"⟩
def RX4 : String := "OrderDesk$Order"
def TX4 : u_T := fun k => match k with
  | 0 => ("OrderDesk$Order", "below", "[I", true)
  | 1 => ("OrderDesk$Order", "above", "[I", true)
  | 2 => ("OrderDesk$Order", "size", "I", false)
  | _ => ("OrderDesk$Order", "version", "I", false)
abbrev cX4_init : ByteArray := prog_6_method_1_code
def yX4_init : MethodName := ⟨RX4, "<init>", "()V"⟩
abbrev cX4_startWith : ByteArray := prog_6_method_2_code
def yX4_startWith : MethodName := ⟨RX4, "startWith", "(I)V"⟩
abbrev cX4_has : ByteArray := prog_6_method_3_code
def yX4_has : MethodName := ⟨RX4, "has", "(I)Z"⟩
abbrev cX4_all : ByteArray := prog_6_method_4_code
def yX4_all : MethodName := ⟨RX4, "all", "()I"⟩
abbrev cX4_under : ByteArray := prog_6_method_5_code
def yX4_under : MethodName := ⟨RX4, "under", "(II)Z"⟩
abbrev cX4_downFrom : ByteArray := prog_6_method_6_code
def yX4_downFrom : MethodName := ⟨RX4, "downFrom", "(I)I"⟩
abbrev cX4_upFrom : ByteArray := prog_6_method_7_code
def yX4_upFrom : MethodName := ⟨RX4, "upFrom", "(I)I"⟩
abbrev cX4_tie : ByteArray := prog_6_method_8_code
def yX4_tie : MethodName := ⟨RX4, "tie", "(II)I"⟩
abbrev cX4_untie : ByteArray := prog_6_method_9_code
def yX4_untie : MethodName := ⟨RX4, "untie", "(I)I"⟩
abbrev cX4_changeBy : ByteArray := prog_6_method_10_code
def yX4_changeBy : MethodName := ⟨RX4, "changeBy", "(I)V"⟩
abbrev cX4_pairs : ByteArray := prog_6_method_11_code
def yX4_pairs : MethodName := ⟨RX4, "pairs", "()I"⟩
abbrev cX4_coversOf : ByteArray := prog_6_method_12_code
def yX4_coversOf : MethodName := ⟨RX4, "coversOf", "(I)I"⟩
abbrev cX4_canFollow : ByteArray := prog_6_method_13_code
def yX4_canFollow : MethodName := ⟨RX4, "canFollow", "(II)Z"⟩
def RX5 : String := "OrderDesk$Parts"
def TX5 : u_T := fun k => match k with
  | 0 => ("OrderDesk$Parts", "order", "LOrderDesk$Order;", true)
  | 1 => ("OrderDesk$Parts", "matching", "LOrderDesk$Matching;", true)
  | 2 => ("OrderDesk$Parts", "nexts", "[I", true)
  | _ => ("OrderDesk$Parts", "seen", "I", false)
abbrev cX5_init : ByteArray := prog_7_method_1_code
def yX5_init : MethodName := ⟨RX5, "<init>", "(LOrderDesk$Order;LOrderDesk$Matching;)V"⟩
abbrev cX5_nextOf : ByteArray := prog_7_method_2_code
def yX5_nextOf : MethodName := ⟨RX5, "nextOf", "(I)I"⟩
abbrev cX5_link : ByteArray := prog_7_method_3_code
def yX5_link : MethodName := ⟨RX5, "link", "()V"⟩
abbrev cX5_leastGoodLink : ByteArray := prog_7_method_4_code
def yX5_leastGoodLink : MethodName := ⟨RX5, "leastGoodLink", "(III)I"⟩
def RX6 : String := "OrderDesk$RowTable"
def TX6 : u_T := fun k => match k with
  | 0 => ("OrderDesk$RowTable", "order", "LOrderDesk$Order;", true)
  | 1 => ("OrderDesk$RowTable", "beginnings", "[J", false)
  | 2 => ("OrderDesk$RowTable", "endings", "[J", false)
  | 3 => ("OrderDesk$RowTable", "ideals", "I", false)
  | 4 => ("OrderDesk$RowTable", "beginningsSeen", "I", false)
  | _ => ("OrderDesk$RowTable", "endingsSeen", "I", false)
abbrev cX6_init : ByteArray := prog_8_method_1_code
def yX6_init : MethodName := ⟨RX6, "<init>", "(LOrderDesk$Order;)V"⟩
abbrev cX6_total : ByteArray := prog_8_method_2_code
def yX6_total : MethodName := ⟨RX6, "total", "()J"⟩
abbrev cX6_ideals : ByteArray := prog_8_method_3_code
def yX6_ideals : MethodName := ⟨RX6, "ideals", "()I"⟩
abbrev cX6_rowsWithFirst : ByteArray := prog_8_method_4_code
def yX6_rowsWithFirst : MethodName := ⟨RX6, "rowsWithFirst", "(II)J"⟩
abbrev cX6_rowsWithPlace : ByteArray := prog_8_method_5_code
def yX6_rowsWithPlace : MethodName := ⟨RX6, "rowsWithPlace", "(II)J"⟩
abbrev cX6_rowsWithStep : ByteArray := prog_8_method_6_code
def yX6_rowsWithStep : MethodName := ⟨RX6, "rowsWithStep", "(II)J"⟩
abbrev cX6_rowNumbered : ByteArray := prog_8_method_7_code
def yX6_rowNumbered : MethodName := ⟨RX6, "rowNumbered", "(J)J"⟩
abbrev cX6_numberOf : ByteArray := prog_8_method_8_code
def yX6_numberOf : MethodName := ⟨RX6, "numberOf", "(J)J"⟩
abbrev cX6_rowsOnFrom : ByteArray := prog_8_method_9_code
def yX6_rowsOnFrom : MethodName := ⟨RX6, "rowsOnFrom", "(II)J"⟩
abbrev cX6_refreshBeginnings : ByteArray := prog_8_method_10_code
def yX6_refreshBeginnings : MethodName := ⟨RX6, "refreshBeginnings", "()V"⟩
abbrev cX6_refreshEndings : ByteArray := prog_8_method_11_code
def yX6_refreshEndings : MethodName := ⟨RX6, "refreshEndings", "()V"⟩
abbrev cX6_makeRoom : ByteArray := prog_8_method_12_code
def yX6_makeRoom : MethodName := ⟨RX6, "makeRoom", "(I)V"⟩
abbrev cX6_countBeginnings : ByteArray := prog_8_method_13_code
def yX6_countBeginnings : MethodName := ⟨RX6, "countBeginnings", "()V"⟩
abbrev cX6_handOn : ByteArray := prog_8_method_14_code
def yX6_handOn : MethodName := ⟨RX6, "handOn", "(II)V"⟩
abbrev cX6_countEndings : ByteArray := prog_8_method_15_code
def yX6_countEndings : MethodName := ⟨RX6, "countEndings", "()V"⟩
abbrev cX6_sumOfEndings : ByteArray := prog_8_method_16_code
def yX6_sumOfEndings : MethodName := ⟨RX6, "sumOfEndings", "(II)J"⟩
def RX7 : String := "OrderDesk$WidestApart"
def TX7 : u_T := fun k => match k with
  | 0 => ("OrderDesk$WidestApart", "order", "LOrderDesk$Order;", true)
  | 1 => ("OrderDesk$WidestApart", "matching", "LOrderDesk$Matching;", true)
  | 2 => ("OrderDesk$WidestApart", "chosen", "I", false)
  | _ => ("OrderDesk$WidestApart", "seen", "I", false)
abbrev cX7_init : ByteArray := prog_9_method_1_code
def yX7_init : MethodName := ⟨RX7, "<init>", "(LOrderDesk$Order;LOrderDesk$Matching;)V"⟩
abbrev cX7_asSet : ByteArray := prog_9_method_2_code
def yX7_asSet : MethodName := ⟨RX7, "asSet", "()I"⟩
abbrev cX7_choose : ByteArray := prog_9_method_3_code
def yX7_choose : MethodName := ⟨RX7, "choose", "()V"⟩
def RX8 : String := "OrderDesk"
def TX8 : u_T := fun k => match k with
  | 0 => ("OrderDesk", "order", "LOrderDesk$Order;", true)
  | 1 => ("OrderDesk", "longest", "LOrderDesk$LongestChain;", true)
  | 2 => ("OrderDesk", "widest", "LOrderDesk$WidestApart;", true)
  | 3 => ("OrderDesk", "parts", "LOrderDesk$Parts;", true)
  | 4 => ("OrderDesk", "table", "LOrderDesk$RowTable;", true)
  | 5 => ("OrderDesk", "cuts", "LOrderDesk$CutList;", true)
  | _ => ("OrderDesk", "interval", "LOrderDesk$MuRow;", true)
abbrev cX8_init : ByteArray := prog_1_method_1_code
def yX8_init : MethodName := ⟨RX8, "<init>", "()V"⟩
abbrev cX8_begin : ByteArray := prog_1_method_2_code
def yX8_begin : MethodName := ⟨RX8, "begin", "(I)I"⟩
abbrev cX8_put : ByteArray := prog_1_method_3_code
def yX8_put : MethodName := ⟨RX8, "put", "(II)I"⟩
abbrev cX8_free : ByteArray := prog_1_method_4_code
def yX8_free : MethodName := ⟨RX8, "free", "(I)I"⟩
abbrev cX8_isBelow : ByteArray := prog_1_method_5_code
def yX8_isBelow : MethodName := ⟨RX8, "isBelow", "(II)Z"⟩
abbrev cX8_covers : ByteArray := prog_1_method_6_code
def yX8_covers : MethodName := ⟨RX8, "covers", "(I)I"⟩
abbrev cX8_count : ByteArray := prog_1_method_7_code
def yX8_count : MethodName := ⟨RX8, "count", "(I)I"⟩
abbrev cX8_chain : ByteArray := prog_1_method_8_code
def yX8_chain : MethodName := ⟨RX8, "chain", "(I)I"⟩
abbrev cX8_apart : ByteArray := prog_1_method_9_code
def yX8_apart : MethodName := ⟨RX8, "apart", "()I"⟩
abbrev cX8_next : ByteArray := prog_1_method_10_code
def yX8_next : MethodName := ⟨RX8, "next", "(I)I"⟩
abbrev cX8_rows : ByteArray := prog_1_method_11_code
def yX8_rows : MethodName := ⟨RX8, "rows", "()J"⟩
abbrev cX8_before : ByteArray := prog_1_method_12_code
def yX8_before : MethodName := ⟨RX8, "before", "(II)J"⟩
abbrev cX8_places : ByteArray := prog_1_method_13_code
def yX8_places : MethodName := ⟨RX8, "places", "(II)J"⟩
abbrev cX8_row : ByteArray := prog_1_method_14_code
def yX8_row : MethodName := ⟨RX8, "row", "(J)J"⟩
abbrev cX8_rank : ByteArray := prog_1_method_15_code
def yX8_rank : MethodName := ⟨RX8, "rank", "(J)J"⟩
abbrev cX8_cut : ByteArray := prog_1_method_16_code
def yX8_cut : MethodName := ⟨RX8, "cut", "(I)I"⟩
abbrev cX8_least : ByteArray := prog_1_method_17_code
def yX8_least : MethodName := ⟨RX8, "least", "(I)I"⟩
abbrev cX8_joined : ByteArray := prog_1_method_18_code
def yX8_joined : MethodName := ⟨RX8, "joined", "(IIZ)I"⟩
abbrev cX8_mu : ByteArray := prog_1_method_19_code
def yX8_mu : MethodName := ⟨RX8, "mu", "(II)I"⟩
abbrev cX8_muOfCuts : ByteArray := prog_1_method_20_code
def yX8_muOfCuts : MethodName := ⟨RX8, "muOfCuts", "(II)I"⟩
abbrev cX8_isPart : ByteArray := prog_1_method_21_code
def yX8_isPart : MethodName := ⟨RX8, "isPart", "(II)Z"⟩
def RX9 : String := "OrderDeskModel"
def TX9 : u_T := fun k => match k with
  | 0 => ("OrderDeskModel", "n", "I", false)
  | 1 => ("OrderDeskModel", "less", "[Z", true)
  | 2 => ("OrderDeskModel", "other", "[Z", true)
  | 3 => ("OrderDeskModel", "orders", "[J", true)
  | 4 => ("OrderDeskModel", "cuts", "[I", true)
  | 5 => ("OrderDeskModel", "cutCount", "I", false)
  | 6 => ("OrderDeskModel", "mus", "[I", true)
  | 7 => ("OrderDeskModel", "gets", "[B", true)
  | 8 => ("OrderDeskModel", "line", "[I", true)
  | _ => ("OrderDeskModel", "best", "[I", true)
abbrev cX9_init : ByteArray := prog_11_method_1_code
def yX9_init : MethodName := ⟨RX9, "<init>", "()V"⟩
abbrev cX9_has : ByteArray := prog_11_method_2_code
def yX9_has : MethodName := ⟨RX9, "has", "(I)Z"⟩
abbrev cX9_is : ByteArray := prog_11_method_3_code
def yX9_is : MethodName := ⟨RX9, "is", "(II)Z"⟩
abbrev cX9_isIn : ByteArray := prog_11_method_4_code
def yX9_isIn : MethodName := ⟨RX9, "isIn", "(II)Z"⟩
abbrev cX9_size : ByteArray := prog_11_method_5_code
def yX9_size : MethodName := ⟨RX9, "size", "(I)I"⟩
abbrev cX9_all : ByteArray := prog_11_method_6_code
def yX9_all : MethodName := ⟨RX9, "all", "()I"⟩
abbrev cX9_begin : ByteArray := prog_11_method_7_code
def yX9_begin : MethodName := ⟨RX9, "begin", "(I)I"⟩
abbrev cX9_put : ByteArray := prog_11_method_8_code
def yX9_put : MethodName := ⟨RX9, "put", "(II)I"⟩
abbrev cX9_close : ByteArray := prog_11_method_9_code
def yX9_close : MethodName := ⟨RX9, "close", "([Z)V"⟩
abbrev cX9_free : ByteArray := prog_11_method_10_code
def yX9_free : MethodName := ⟨RX9, "free", "(I)I"⟩
abbrev cX9_isBelow : ByteArray := prog_11_method_11_code
def yX9_isBelow : MethodName := ⟨RX9, "isBelow", "(II)Z"⟩
abbrev cX9_covers : ByteArray := prog_11_method_12_code
def yX9_covers : MethodName := ⟨RX9, "covers", "(I)I"⟩
abbrev cX9_pairs : ByteArray := prog_11_method_13_code
def yX9_pairs : MethodName := ⟨RX9, "pairs", "()I"⟩
abbrev cX9_isChain : ByteArray := prog_11_method_14_code
def yX9_isChain : MethodName := ⟨RX9, "isChain", "(I)Z"⟩
abbrev cX9_isApart : ByteArray := prog_11_method_15_code
def yX9_isApart : MethodName := ⟨RX9, "isApart", "(I)Z"⟩
abbrev cX9_isIdeal : ByteArray := prog_11_method_16_code
def yX9_isIdeal : MethodName := ⟨RX9, "isIdeal", "(I)Z"⟩
abbrev cX9_write : ByteArray := prog_11_method_17_code
def yX9_write : MethodName := ⟨RX9, "write", "(I[I)I"⟩
abbrev cX9_findChain : ByteArray := prog_11_method_18_code
def yX9_findChain : MethodName := ⟨RX9, "findChain", "()I"⟩
abbrev cX9_apart : ByteArray := prog_11_method_19_code
def yX9_apart : MethodName := ⟨RX9, "apart", "()I"⟩
abbrev cX9_count : ByteArray := prog_11_method_20_code
def yX9_count : MethodName := ⟨RX9, "count", "(I)I"⟩
abbrev cX9_chain : ByteArray := prog_11_method_21_code
def yX9_chain : MethodName := ⟨RX9, "chain", "(I)I"⟩
abbrev cX9_findGets : ByteArray := prog_11_method_22_code
def yX9_findGets : MethodName := ⟨RX9, "findGets", "()V"⟩
abbrev cX9_next : ByteArray := prog_11_method_23_code
def yX9_next : MethodName := ⟨RX9, "next", "(I)I"⟩
abbrev cX9_findOrders : ByteArray := prog_11_method_24_code
def yX9_findOrders : MethodName := ⟨RX9, "findOrders", "([Z)V"⟩
abbrev cX9_rows : ByteArray := prog_11_method_25_code
def yX9_rows : MethodName := ⟨RX9, "rows", "()J"⟩
abbrev cX9_before : ByteArray := prog_11_method_26_code
def yX9_before : MethodName := ⟨RX9, "before", "(II)J"⟩
abbrev cX9_places : ByteArray := prog_11_method_27_code
def yX9_places : MethodName := ⟨RX9, "places", "(II)J"⟩
abbrev cX9_mayCome : ByteArray := prog_11_method_28_code
def yX9_mayCome : MethodName := ⟨RX9, "mayCome", "(II)Z"⟩
abbrev cX9_row : ByteArray := prog_11_method_29_code
def yX9_row : MethodName := ⟨RX9, "row", "(J)J"⟩
abbrev cX9_rank : ByteArray := prog_11_method_30_code
def yX9_rank : MethodName := ⟨RX9, "rank", "(J)J"⟩
abbrev cX9_above : ByteArray := prog_11_method_31_code
def yX9_above : MethodName := ⟨RX9, "above", "(I)I"⟩
abbrev cX9_below : ByteArray := prog_11_method_32_code
def yX9_below : MethodName := ⟨RX9, "below", "(I)I"⟩
abbrev cX9_findCuts : ByteArray := prog_11_method_33_code
def yX9_findCuts : MethodName := ⟨RX9, "findCuts", "()V"⟩
abbrev cX9_cut : ByteArray := prog_11_method_34_code
def yX9_cut : MethodName := ⟨RX9, "cut", "(I)I"⟩
abbrev cX9_extreme : ByteArray := prog_11_method_35_code
def yX9_extreme : MethodName := ⟨RX9, "extreme", "(IZ)I"⟩
abbrev cX9_least : ByteArray := prog_11_method_36_code
def yX9_least : MethodName := ⟨RX9, "least", "(I)I"⟩
abbrev cX9_joined : ByteArray := prog_11_method_37_code
def yX9_joined : MethodName := ⟨RX9, "joined", "(IIZ)I"⟩
abbrev cX9_mu : ByteArray := prog_11_method_38_code
def yX9_mu : MethodName := ⟨RX9, "mu", "(II)I"⟩
abbrev cX9_muOfCuts : ByteArray := prog_11_method_39_code
def yX9_muOfCuts : MethodName := ⟨RX9, "muOfCuts", "(II)I"⟩
def RJx8e188 : String := "java/lang/Cloneable"
def RJ6 : String := "java/lang/Integer"
abbrev cJ6_bitCount_0f7a4 : ByteArray := prog_13_method_49_code
def yJ6_bitCount_0f7a4 : MethodName := ⟨RJ6, "bitCount", "(I)I"⟩
def RJ9 : String := "java/lang/Math"
abbrev cJ9_min_7cf53 : ByteArray := prog_14_method_69_code
def yJ9_min_7cf53 : MethodName := ⟨RJ9, "min", "(II)I"⟩
def RJ10 : String := "java/lang/System"
def RJ7 : String := "java/util/Arrays"
abbrev cJ7_fill_d0a16 : ByteArray := prog_16_method_101_code
def yJ7_fill_d0a16 : MethodName := ⟨RJ7, "fill", "([JJ)V"⟩
abbrev cJ7_copyOf_59c91 : ByteArray := prog_16_method_123_code
def yJ7_copyOf_59c91 : MethodName := ⟨RJ7, "copyOf", "([II)[I"⟩
def RL : String := "OrderDeskLaw"
abbrev cL_law : ByteArray := code
def yL_law : MethodName := ⟨RL, "law", "([I)Z"⟩
abbrev vwCl : List vw_C := [(RX0, TX0, 4), (RX1, TX1, 5), (RX2, TX2, 4), (RX3, TX3, 3), (RX4, TX4, 4), (RX5, TX5, 4), (RX6, TX6, 6), (RX7, TX7, 4), (RX8, TX8, 7), (RX9, TX9, 10)]
theorem zt_cl : zv_cl vwCl zt = true := by decide +kernel
abbrev zw (y : MethodName) (c : ByteArray) (n : Nat) (r : Option FieldType) : List Jvm.Cond := Jvm.Cond.code y c n r :: zt
end
section
/-! CALL WORDS over zt, one list for every method -/
theorem zt_goodIn {ws : List Jvm.Cond} (h : ∀ w ∈ ws, w ∈ zt) : GoodIn zt ws := fun w hw => ⟨h w hw, good_of_word (zt_good w (h w hw))⟩
def zk_d (y : MethodName) (n : Nat) : Bool := decide (y.cls ≠ "java/lang/invoke/MethodHandle") && (decide (y.cls ≠ "java/lang/invoke/VarHandle") && decide ((parseMethodDescriptor y.desc).map (fun d => d.parameters.length) = some n))
def zk_V (own : String) (index : Nat) (y : MethodName) (n : Nat) : Bool := decide (Jvm.Cond.methodLink own index y ∈ zt) && (decide (Jvm.Cond.instanceMethod y ∈ zt) && (decide (Jvm.Cond.selects y.cls y y ∈ zt) && (decide (Jvm.Cond.initialized y.cls ∈ zt) && zk_d y n)))
def zk_S (own : String) (index : Nat) (y : MethodName) (n : Nat) : Bool := decide (Jvm.Cond.methodLink own index y ∈ zt) && (decide (Jvm.Cond.static y ∈ zt) && (decide (Jvm.Cond.initialized y.cls ∈ zt) && zk_d y n))
def zk_I (own : String) (index : Nat) (y : MethodName) (n : Nat) : Bool := decide (Jvm.Cond.methodLink own index y ∈ zt) && (decide (Jvm.Cond.instanceMethod y ∈ zt) && (decide (Jvm.Cond.initialized y.cls ∈ zt) && (decide (y.name = "<init>") && zk_d y n)))
def zk_SN (own : String) (index : Nat) (y : MethodName) (n : Nat) : Bool := decide ((own, index, y, "OrderDesk") ∈ zv_nl) && (decide (Jvm.Cond.static y ∈ zt) && (decide (Jvm.Cond.initialized y.cls ∈ zt) && zk_d y n))
def zk_IN (own : String) (index : Nat) (y : MethodName) (n : Nat) : Bool := decide ((own, index, y, "OrderDesk") ∈ zv_nl) && (decide (Jvm.Cond.instanceMethod y ∈ zt) && (decide (Jvm.Cond.initialized y.cls ∈ zt) && (decide (y.name = "<init>") && zk_d y n)))
section ZW
variable {R : Room} {own : String} {index maxL n : Nat} {y : MethodName} {bytes : ByteArray} {rt : Option FieldType} {rm : Room}
theorem zw_sub (hc : Jvm.Cond.code y bytes maxL rt ∈ zt) : ∀ w ∈ zw y bytes maxL rt, w ∈ zt := fun w h => (List.mem_cons.mp h).elim (fun e => e ▸ hc) id
theorem zw_V (hc : Jvm.Cond.code y bytes maxL rt ∈ zt) (hk : zk_V own index y n = true) (hR : rm.frames + 1 ≤ R.frames ∧ 8 + (maxL + 11) + rm.locals ≤ R.locals) (s : State) (args : Array Value) (ht : ∀ w ∈ zt, w.before args s = true) : CallW R s args own y.cls index y bytes maxL rt (zw y bytes maxL rt) rm rm.cells rm.slots n := by
  simp only [zk_V, zk_d, Bool.and_eq_true, decide_eq_true_eq] at hk
  obtain ⟨h1, h2, h3, h4, h5, h6, h7⟩ := hk
  refine cwV n ht (zt_goodIn fun w hw => ?_) rfl rfl rfl ⟨rfl, h5, h6, h7⟩ hR
  rcases List.mem_append.mp hw with h | h
  · simp only [List.mem_cons, List.not_mem_nil, or_false] at h
    rcases h with rfl | rfl | rfl | rfl
    · exact h1
    · exact h2
    · exact h3
    · exact h4
  · exact zw_sub hc w h
theorem zw_S (hc : Jvm.Cond.code y bytes maxL rt ∈ zt) (hk : zk_S own index y n = true) (hR : rm.frames + 1 ≤ R.frames ∧ 8 + (maxL + 11) + rm.locals ≤ R.locals) (s : State) (args : Array Value) (ht : ∀ w ∈ zt, w.before args s = true) : CallB R s args own index y bytes maxL rt (zw y bytes maxL rt) rm rm.cells rm.slots n ∧ (Jvm.Cond.static y).before args s = true := by
  simp only [zk_S, zk_d, Bool.and_eq_true, decide_eq_true_eq] at hk
  obtain ⟨h1, h2, h3, h5, h6, h7⟩ := hk
  exact ⟨callB_of n ht (zt_goodIn (zw_sub hc)) rfl rfl rfl (ht _ h3) (ht _ h1) ⟨h5, h6, h7⟩ hR, ht _ h2⟩
theorem zw_I (hc : Jvm.Cond.code y bytes maxL none ∈ zt) (hk : zk_I own index y n = true) (hR : rm.frames + 1 ≤ R.frames ∧ 8 + (maxL + 11) + rm.locals ≤ R.locals) (s : State) (args : Array Value) (ht : ∀ w ∈ zt, w.before args s = true) : CallB R s args own index y bytes maxL none (zw y bytes maxL none) rm rm.cells rm.slots n ∧ y.name = "<init>" ∧ (Jvm.Cond.instanceMethod y).before args s = true := by
  simp only [zk_I, zk_d, Bool.and_eq_true, decide_eq_true_eq] at hk
  obtain ⟨h1, h2, h3, h4, h5, h6, h7⟩ := hk
  exact ⟨callB_of n ht (zt_goodIn (zw_sub hc)) rfl rfl rfl (ht _ h3) (ht _ h1) ⟨h5, h6, h7⟩ hR, h4, ht _ h2⟩
theorem zw_SN (hc : Jvm.Cond.code y bytes maxL rt ∈ zt) (hk : zk_SN own index y n = true) (hR : rm.frames + 1 ≤ R.frames ∧ 8 + (maxL + 11) + rm.locals ≤ R.locals) (s : State) (args : Array Value) (ht : ∀ w ∈ zt, w.before args s = true) (hl : va_Nw (.methodLinkNest own index y "OrderDesk") s) : va_CN R s args own index y "OrderDesk" bytes maxL rt (zw y bytes maxL rt) rm rm.cells rm.slots n ∧ (Jvm.Cond.static y).before args s = true ∧ True := by
  simp only [zk_SN, zk_d, Bool.and_eq_true, decide_eq_true_eq] at hk
  obtain ⟨h1, h2, h3, h5, h6, h7⟩ := hk
  exact ⟨va_cnB n ht (zt_goodIn (zw_sub hc)) rfl rfl rfl hl (ht _ h3) ⟨h5, h6, h7⟩ hR, ht _ h2, trivial⟩
theorem zw_IN (hc : Jvm.Cond.code y bytes maxL none ∈ zt) (hk : zk_IN own index y n = true) (hR : rm.frames + 1 ≤ R.frames ∧ 8 + (maxL + 11) + rm.locals ≤ R.locals) (s : State) (args : Array Value) (ht : ∀ w ∈ zt, w.before args s = true) (hl : va_Nw (.methodLinkNest own index y "OrderDesk") s) : va_CN R s args own index y "OrderDesk" bytes maxL none (zw y bytes maxL none) rm rm.cells rm.slots n ∧ y.name = "<init>" ∧ (Jvm.Cond.instanceMethod y).before args s = true := by
  simp only [zk_IN, zk_d, Bool.and_eq_true, decide_eq_true_eq] at hk
  obtain ⟨h1, h2, h3, h4, h5, h6, h7⟩ := hk
  exact ⟨va_cnB n ht (zt_goodIn (zw_sub hc)) rfl rfl rfl hl (ht _ h3) ⟨h5, h6, h7⟩ hR, h4, ht _ h2⟩
theorem zk_SN_in (hk : zk_SN own index y n = true) : (own, index, y, "OrderDesk") ∈ zv_nl := by
  simp only [zk_SN, Bool.and_eq_true, decide_eq_true_eq] at hk
  exact hk.1
theorem zk_IN_in (hk : zk_IN own index y n = true) : (own, index, y, "OrderDesk") ∈ zv_nl := by
  simp only [zk_IN, Bool.and_eq_true, decide_eq_true_eq] at hk
  exact hk.1
end ZW
theorem kX0_23 : zk_V RX0 23 yX0_refresh 0 = true := by decide +kernel
theorem kX0_29 : zk_V RX0 29 yX0_close 1 = true := by decide +kernel
theorem kX0_38 : zk_V RX0 38 yX0_list 0 = true := by decide +kernel
theorem kX0_41 : zk_V RX0 41 yX4_all 0 = true := by decide +kernel
theorem kX0_45 : zk_V RX0 45 yX0_append 1 = true := by decide +kernel
theorem kX0_49 : zk_V RX0 49 yX0_following 1 = true := by decide +kernel
theorem kX0_52 : zk_S RX0 52 yJ7_copyOf_59c91 2 = true := by decide +kernel
theorem kX0_61 : zk_V RX0 61 yX4_upFrom 1 = true := by decide +kernel
theorem kX0_64 : zk_V RX0 64 yX4_downFrom 1 = true := by decide +kernel
theorem kX1_26 : zk_V RX1 26 yX1_refresh 0 = true := by decide +kernel
theorem kX1_37 : zk_V RX1 37 yX1_peelLayers 0 = true := by decide +kernel
theorem kX1_40 : zk_V RX1 40 yX1_climb 0 = true := by decide +kernel
theorem kX1_43 : zk_V RX1 43 yX4_all 0 = true := by decide +kernel
theorem kX1_47 : zk_V RX1 47 yX1_topsOf 1 = true := by decide +kernel
theorem kX1_57 : zk_V RX1 57 yX1_leastOf 1 = true := by decide +kernel
theorem kX2_31 : zk_V RX2 31 yX2_pairUp 2 = true := by decide +kernel
theorem kX2_35 : zk_S RX2 35 yJ6_bitCount_0f7a4 1 = true := by decide +kernel
theorem kX2_41 : zk_V RX2 41 yX2_most 2 = true := by decide +kernel
theorem kX3_22 : zk_V RX3 22 yX3_makeRoom 0 = true := by decide +kernel
theorem kX3_25 : zk_V RX3 25 yX3_sumUnder 1 = true := by decide +kernel
theorem kX3_29 : zk_SN RX3 29 yX8_isPart 2 = true := by decide +kernel
theorem kX3_33 : zk_S RX3 33 yJ7_copyOf_59c91 2 = true := by decide +kernel
theorem kX4_25 : zk_V RX4 25 yX4_downFrom 1 = true := by decide +kernel
theorem kX4_29 : zk_V RX4 29 yX4_upFrom 1 = true := by decide +kernel
theorem kX4_32 : zk_S RX4 32 yJ6_bitCount_0f7a4 1 = true := by decide +kernel
theorem kX4_37 : zk_V RX4 37 yX4_changeBy 1 = true := by decide +kernel
theorem kX4_41 : zk_V RX4 41 yX4_under 2 = true := by decide +kernel
theorem kX5_32 : zk_V RX5 32 yX5_link 0 = true := by decide +kernel
theorem kX5_35 : zk_V RX5 35 yX4_all 0 = true := by decide +kernel
theorem kX5_39 : zk_V RX5 39 yX2_most 2 = true := by decide +kernel
theorem kX5_48 : zk_V RX5 48 yX5_leastGoodLink 3 = true := by decide +kernel
theorem kX6_29 : zk_V RX6 29 yX6_refreshBeginnings 0 = true := by decide +kernel
theorem kX6_32 : zk_V RX6 32 yX4_all 0 = true := by decide +kernel
theorem kX6_41 : zk_V RX6 41 yX6_refreshEndings 0 = true := by decide +kernel
theorem kX6_44 : zk_V RX6 44 yX6_rowsWithStep 2 = true := by decide +kernel
theorem kX6_48 : zk_S RX6 48 yJ6_bitCount_0f7a4 1 = true := by decide +kernel
theorem kX6_54 : zk_V RX6 54 yX6_rowsOnFrom 2 = true := by decide +kernel
theorem kX6_62 : zk_V RX6 62 yX4_has 1 = true := by decide +kernel
theorem kX6_66 : zk_V RX6 66 yX4_canFollow 2 = true := by decide +kernel
theorem kX6_73 : zk_V RX6 73 yX6_makeRoom 1 = true := by decide +kernel
theorem kX6_77 : zk_V RX6 77 yX6_countBeginnings 0 = true := by decide +kernel
theorem kX6_80 : zk_V RX6 80 yX6_countEndings 0 = true := by decide +kernel
theorem kX6_83 : zk_S RX6 83 yJ7_fill_d0a16 2 = true := by decide +kernel
theorem kX6_89 : zk_V RX6 89 yX6_handOn 2 = true := by decide +kernel
theorem kX6_97 : zk_V RX6 97 yX6_sumOfEndings 2 = true := by decide +kernel
theorem kX7_28 : zk_V RX7 28 yX7_choose 0 = true := by decide +kernel
theorem kX7_34 : zk_V RX7 34 yX4_all 0 = true := by decide +kernel
theorem kX7_38 : zk_V RX7 38 yX2_widthOf 1 = true := by decide +kernel
theorem kX8_9 : zk_IN RX8 9 yX4_init 0 = true := by decide +kernel
theorem kX8_18 : zk_I RX8 18 yX2_init 1 = true := by decide +kernel
theorem kX8_23 : zk_I RX8 23 yX1_init 1 = true := by decide +kernel
theorem kX8_30 : zk_I RX8 30 yX7_init 2 = true := by decide +kernel
theorem kX8_39 : zk_I RX8 39 yX5_init 2 = true := by decide +kernel
theorem kX8_46 : zk_I RX8 46 yX6_init 1 = true := by decide +kernel
theorem kX8_53 : zk_I RX8 53 yX0_init 1 = true := by decide +kernel
theorem kX8_60 : zk_IN RX8 60 yX3_init 0 = true := by decide +kernel
theorem kX8_65 : zk_V RX8 65 yX4_startWith 1 = true := by decide +kernel
theorem kX8_69 : zk_V RX8 69 yX4_has 1 = true := by decide +kernel
theorem kX8_73 : zk_V RX8 73 yX4_under 2 = true := by decide +kernel
theorem kX8_77 : zk_V RX8 77 yX4_tie 2 = true := by decide +kernel
theorem kX8_81 : zk_V RX8 81 yX4_untie 1 = true := by decide +kernel
theorem kX8_85 : zk_V RX8 85 yX4_coversOf 1 = true := by decide +kernel
theorem kX8_92 : zk_V RX8 92 yX4_pairs 0 = true := by decide +kernel
theorem kX8_96 : zk_V RX8 96 yX1_length 0 = true := by decide +kernel
theorem kX8_99 : zk_V RX8 99 yX7_asSet 0 = true := by decide +kernel
theorem kX8_102 : zk_S RX8 102 yJ6_bitCount_0f7a4 1 = true := by decide +kernel
theorem kX8_107 : zk_V RX8 107 yX6_ideals 0 = true := by decide +kernel
theorem kX8_110 : zk_V RX8 110 yX0_length 0 = true := by decide +kernel
theorem kX8_111 : zk_V RX8 111 yX1_thingAt 1 = true := by decide +kernel
theorem kX8_114 : zk_V RX8 114 yX5_nextOf 1 = true := by decide +kernel
theorem kX8_117 : zk_V RX8 117 yX6_total 0 = true := by decide +kernel
theorem kX8_123 : zk_V RX8 123 yX6_rowsWithFirst 2 = true := by decide +kernel
theorem kX8_127 : zk_V RX8 127 yX6_rowsWithPlace 2 = true := by decide +kernel
theorem kX8_130 : zk_V RX8 130 yX6_rowNumbered 1 = true := by decide +kernel
theorem kX8_134 : zk_V RX8 134 yX6_numberOf 1 = true := by decide +kernel
theorem kX8_137 : zk_V RX8 137 yX0_has 1 = true := by decide +kernel
theorem kX8_138 : zk_V RX8 138 yX0_setOf 1 = true := by decide +kernel
theorem kX8_141 : zk_V RX8 141 yX4_all 0 = true := by decide +kernel
theorem kX8_144 : zk_V RX8 144 yX0_numberOfLeast 1 = true := by decide +kernel
theorem kX8_147 : zk_V RX8 147 yX4_upFrom 1 = true := by decide +kernel
theorem kX8_150 : zk_V RX8 150 yX4_downFrom 1 = true := by decide +kernel
theorem kX8_153 : zk_V RX8 153 yX3_clear 0 = true := by decide +kernel
theorem kX8_156 : zk_V RX8 156 yX3_add 1 = true := by decide +kernel
theorem kX8_159 : zk_V RX8 159 yX3_ofFirstWithLast 0 = true := by decide +kernel
theorem kX8_162 : zk_S RX8 162 yX8_isPart 2 = true := by decide +kernel
theorem kX9_42 : zk_V RX9 42 yX9_has 1 = true := by decide +kernel
theorem kX9_46 : zk_V RX9 46 yX9_is 2 = true := by decide +kernel
theorem kX9_50 : zk_V RX9 50 yX9_pairs 0 = true := by decide +kernel
theorem kX9_54 : zk_V RX9 54 yX9_close 1 = true := by decide +kernel
theorem kX9_58 : zk_S RX9 58 yX9_isIn 2 = true := by decide +kernel
theorem kX9_61 : zk_V RX9 61 yX9_all 0 = true := by decide +kernel
theorem kX9_64 : zk_S RX9 64 yX9_size 1 = true := by decide +kernel
theorem kX9_68 : zk_V RX9 68 yX9_isChain 1 = true := by decide +kernel
theorem kX9_71 : zk_V RX9 71 yX9_write 2 = true := by decide +kernel
theorem kX9_75 : zk_V RX9 75 yX9_isApart 1 = true := by decide +kernel
theorem kX9_78 : zk_V RX9 78 yX9_findChain 0 = true := by decide +kernel
theorem kX9_81 : zk_V RX9 81 yX9_apart 0 = true := by decide +kernel
theorem kX9_84 : zk_V RX9 84 yX9_isIdeal 1 = true := by decide +kernel
theorem kX9_87 : zk_V RX9 87 yX9_findCuts 0 = true := by decide +kernel
theorem kX9_93 : zk_V RX9 93 yX9_findGets 0 = true := by decide +kernel
theorem kX9_96 : zk_V RX9 96 yX9_findOrders 1 = true := by decide +kernel
theorem kX9_101 : zk_V RX9 101 yX9_mayCome 2 = true := by decide +kernel
theorem kX9_106 : zk_V RX9 106 yX9_above 1 = true := by decide +kernel
theorem kX9_109 : zk_V RX9 109 yX9_below 1 = true := by decide +kernel
theorem kX9_112 : zk_V RX9 112 yX9_extreme 2 = true := by decide +kernel
theorem kJ7_304 : zk_S RJ7 304 yJ9_min_7cf53 2 = true := by decide +kernel
theorem kL_9 : zk_I RL 9 yX8_init 0 = true := by decide +kernel
theorem kL_12 : zk_I RL 12 yX9_init 0 = true := by decide +kernel
theorem kL_13 : zk_V RL 13 yX8_begin 1 = true := by decide +kernel
theorem kL_17 : zk_V RL 17 yX9_begin 1 = true := by decide +kernel
theorem kL_18 : zk_V RL 18 yX8_put 2 = true := by decide +kernel
theorem kL_22 : zk_V RL 22 yX9_put 2 = true := by decide +kernel
theorem kL_23 : zk_V RL 23 yX8_free 1 = true := by decide +kernel
theorem kL_26 : zk_V RL 26 yX9_free 1 = true := by decide +kernel
theorem kL_27 : zk_V RL 27 yX8_isBelow 2 = true := by decide +kernel
theorem kL_31 : zk_V RL 31 yX9_isBelow 2 = true := by decide +kernel
theorem kL_32 : zk_V RL 32 yX8_covers 1 = true := by decide +kernel
theorem kL_35 : zk_V RL 35 yX9_covers 1 = true := by decide +kernel
theorem kL_36 : zk_V RL 36 yX8_count 1 = true := by decide +kernel
theorem kL_39 : zk_V RL 39 yX9_count 1 = true := by decide +kernel
theorem kL_40 : zk_V RL 40 yX8_chain 1 = true := by decide +kernel
theorem kL_43 : zk_V RL 43 yX9_chain 1 = true := by decide +kernel
theorem kL_44 : zk_V RL 44 yX8_apart 0 = true := by decide +kernel
theorem kL_48 : zk_V RL 48 yX9_apart 0 = true := by decide +kernel
theorem kL_49 : zk_V RL 49 yX8_next 1 = true := by decide +kernel
theorem kL_52 : zk_V RL 52 yX9_next 1 = true := by decide +kernel
theorem kL_53 : zk_V RL 53 yX8_rows 0 = true := by decide +kernel
theorem kL_57 : zk_V RL 57 yX9_rows 0 = true := by decide +kernel
theorem kL_58 : zk_V RL 58 yX8_before 2 = true := by decide +kernel
theorem kL_62 : zk_V RL 62 yX9_before 2 = true := by decide +kernel
theorem kL_63 : zk_V RL 63 yX8_places 2 = true := by decide +kernel
theorem kL_66 : zk_V RL 66 yX9_places 2 = true := by decide +kernel
theorem kL_69 : zk_V RL 69 yX8_row 1 = true := by decide +kernel
theorem kL_73 : zk_V RL 73 yX9_row 1 = true := by decide +kernel
theorem kL_74 : zk_V RL 74 yX8_rank 1 = true := by decide +kernel
theorem kL_77 : zk_V RL 77 yX9_rank 1 = true := by decide +kernel
theorem kL_78 : zk_V RL 78 yX8_cut 1 = true := by decide +kernel
theorem kL_81 : zk_V RL 81 yX9_cut 1 = true := by decide +kernel
theorem kL_82 : zk_V RL 82 yX8_least 1 = true := by decide +kernel
theorem kL_85 : zk_V RL 85 yX9_least 1 = true := by decide +kernel
theorem kL_86 : zk_V RL 86 yX8_joined 3 = true := by decide +kernel
theorem kL_90 : zk_V RL 90 yX9_joined 3 = true := by decide +kernel
theorem kL_91 : zk_V RL 91 yX8_mu 2 = true := by decide +kernel
theorem kL_94 : zk_V RL 94 yX9_mu 2 = true := by decide +kernel
theorem kL_95 : zk_V RL 95 yX8_muOfCuts 2 = true := by decide +kernel
theorem kL_98 : zk_V RL 98 yX9_muOfCuts 2 = true := by decide +kernel
end
section
/-! BITS: sets as numbers -/
def ndf (a b : Nat) : Nat := a ^^^ (a &&& b)
theorem ndf_tb (a b i : Nat) : (ndf a b).testBit i = (a.testBit i && !b.testBit i) := by
  unfold ndf
  rw [Nat.testBit_xor, Nat.testBit_and]
  cases a.testBit i <;> cases b.testBit i <;> rfl
theorem nb_ext {x y : Int32} (h : ∀ i, i < 32 → x.toBitVec.getLsbD i = y.toBitVec.getLsbD i) : x = y := Int32.toBitVec_inj.mp (BitVec.eq_of_getLsbD_eq (fun i hi => h i hi))
theorem nb_nI (a : Nat) {i : Nat} (hi : i < 32) : (nI a).toBitVec.getLsbD i = a.testBit i := by
  show (BitVec.ofNat 32 a).getLsbD i = _
  rw [BitVec.getLsbD_ofNat, decide_eq_true hi, Bool.true_and]
theorem nb_and (a b : Nat) : nI a &&& nI b = nI (a &&& b) := by
  apply nb_ext
  intro i hi
  rw [Int32.toBitVec_and, BitVec.getLsbD_and, nb_nI _ hi, nb_nI _ hi, nb_nI _ hi, Nat.testBit_and]
theorem nb_or (a b : Nat) : nI a ||| nI b = nI (a ||| b) := by
  apply nb_ext
  intro i hi
  rw [Int32.toBitVec_or, BitVec.getLsbD_or, nb_nI _ hi, nb_nI _ hi, nb_nI _ hi, Nat.testBit_or]
theorem nb_xor (a b : Nat) : nI a ^^^ nI b = nI (a ^^^ b) := by
  apply nb_ext
  intro i hi
  rw [Int32.toBitVec_xor, BitVec.getLsbD_xor, nb_nI _ hi, nb_nI _ hi, nb_nI _ hi, Nat.testBit_xor]
theorem nb_m1 : ∀ i, i < 32 → (-1 : Int32).toBitVec.getLsbD i = true := by decide +kernel
theorem nb_not (a b : Nat) : nI a &&& (nI b ^^^ (-1)) = nI (ndf a b) := by
  apply nb_ext
  intro i hi
  rw [Int32.toBitVec_and, BitVec.getLsbD_and, Int32.toBitVec_xor, BitVec.getLsbD_xor, nb_m1 i hi, nb_nI _ hi, nb_nI _ hi, nb_nI _ hi, ndf_tb]
  cases a.testBit i <;> cases b.testBit i <;> rfl
theorem nb_1s : ∀ v, v < 32 → (1 : Int32) <<< (nI v &&& 31) = nI (2 ^ v) := by decide +kernel
theorem nb_all : ∀ v, v < 32 → (1 : Int32) <<< (nI v &&& 31) - 1 = nI (2 ^ v - 1) := by decide +kernel
theorem nb_inj {a b : Nat} (ha : a < 2 ^ 32) (hb : b < 2 ^ 32) : nI a = nI b ↔ a = b := by
  refine ⟨fun h => ?_, fun h => by rw [h]⟩
  have h1 := congrArg (fun z : Int32 => z.toBitVec.toNat) h
  simp only [pk_tn ha, pk_tn hb] at h1
  exact h1
theorem nb_0 {a : Nat} (ha : a < 2 ^ 32) : nI a = 0 ↔ a = 0 := by
  rw [← nI_0]
  exact nb_inj ha (by decide)
theorem nb_pow0 (s v : Nat) : s &&& 2 ^ v = 0 ↔ s.testBit v = false := by
  refine ⟨fun h => ?_, fun h => ?_⟩
  · have h1 : (s &&& 2 ^ v).testBit v = false := by rw [h]; exact Nat.zero_testBit v
    rw [Nat.testBit_and, Nat.testBit_two_pow_self, Bool.and_true] at h1
    exact h1
  · apply Nat.eq_of_testBit_eq
    intro i
    rw [Nat.testBit_and, Nat.zero_testBit]
    by_cases hi : v = i
    · subst hi
      rw [h, Bool.false_and]
    · rw [Nat.testBit_two_pow_of_ne hi, Bool.and_false]
theorem nb_t0 {s v : Nat} (hs : s < 2 ^ 32) (hv : v < 32) : nI s &&& ((1 : Int32) <<< (nI v &&& 31)) = 0 ↔ s.testBit v = false := by
  rw [nb_1s v hv, nb_and, nb_0 (Nat.lt_of_le_of_lt Nat.and_le_left hs), nb_pow0]
theorem nb_t1 {s v : Nat} (hs : s < 2 ^ 32) (hv : v < 32) : ¬ (nI s &&& ((1 : Int32) <<< (nI v &&& 31)) = 0) ↔ s.testBit v = true := by
  rw [nb_t0 hs hv]
  cases s.testBit v <;> simp
/-- the bits of s from v on -/
def nhi (s v : Nat) : Nat := (s >>> v) <<< v
theorem nhi_tb (s v i : Nat) : (nhi s v).testBit i = (decide (v ≤ i) && s.testBit i) := by
  unfold nhi
  rw [Nat.testBit_shiftLeft, Nat.testBit_shiftRight]
  by_cases h : v ≤ i
  · simp only [h, decide_true, Bool.true_and]
    congr 1
    omega
  · simp [h]
theorem nb_neg : ∀ v, v < 32 → ∀ i, i < 32 → (-((1 : Int32) <<< (nI v &&& 31))).toBitVec.getLsbD i = decide (v ≤ i) := by decide +kernel
theorem nb_hi (s v : Nat) (hv : v < 32) : nI s &&& (-((1 : Int32) <<< (nI v &&& 31))) = nI (nhi s v) := by
  apply nb_ext
  intro i hi
  rw [Int32.toBitVec_and, BitVec.getLsbD_and, nb_neg v hv i hi, nb_nI _ hi, nb_nI _ hi, nhi_tb]
  cases s.testBit i <;> cases decide (v ≤ i) <;> rfl
/-- how many of the first n bits -/
def npc : Nat → Nat → Nat
  | 0, _ => 0
  | k + 1, s => npc k s + (s.testBit k).toNat
theorem npc_le : ∀ (n s : Nat), npc n s ≤ n
  | 0, s => Nat.le_refl _
  | k + 1, s => by
    have h := npc_le k s
    unfold npc
    cases s.testBit k <;> simp <;> omega
theorem nb_lt_or {a b n : Nat} (ha : a < 2 ^ n) (hb : b < 2 ^ n) : a ||| b < 2 ^ n := Nat.or_lt_two_pow ha hb
theorem nb_lt_pow {v n : Nat} (h : v < n) : 2 ^ v < 2 ^ n := Nat.pow_lt_pow_right (by decide) h
theorem ndf_le (a b : Nat) : ndf a b ≤ a := by
  have h : ndf a b = a &&& ndf a b := by
    apply Nat.eq_of_testBit_eq
    intro i
    rw [Nat.testBit_and, ndf_tb]
    cases a.testBit i <;> simp
  rw [h]
  exact Nat.and_le_left
theorem nb_tb_lt {s n i : Nat} (hs : s < 2 ^ n) (hi : n ≤ i) : s.testBit i = false := Nat.testBit_lt_two_pow (Nat.lt_of_lt_of_le hs (Nat.pow_le_pow_right (by decide) hi))
end
section
/-! THE JDK's bitCount -/
/-- the JDK's bitCount, as its instructions have it -/
def jbc (x : Int32) : Int32 :=
  let a := x - ((x.toUInt32 >>> ((1 : Int32).toUInt32 &&& Int32.toUInt32 31)).toInt32 &&& 1431655765)
  let b := (a &&& 858993459) + ((a.toUInt32 >>> ((2 : Int32).toUInt32 &&& Int32.toUInt32 31)).toInt32 &&& 858993459)
  let c := (b + (b.toUInt32 >>> ((4 : Int32).toUInt32 &&& Int32.toUInt32 31)).toInt32) &&& 252645135
  let d := c + (c.toUInt32 >>> ((8 : Int32).toUInt32 &&& Int32.toUInt32 31)).toInt32
  let e := d + (d.toUInt32 >>> ((16 : Int32).toUInt32 &&& Int32.toUInt32 31)).toInt32
  e &&& 63
set_option maxRecDepth 100000 in
theorem jbc_all : ∀ a, a < 128 → ∀ b, b < 128 → jbc (nI (128 * a + b)) = nI (npc 14 (128 * a + b)) := by decide +kernel
theorem jbc_ok {s : Nat} (h : s < 2 ^ 14) : jbc (nI s) = nI (npc 14 s) := by
  have e : 128 * (s / 128) + s % 128 = s := Nat.div_add_mod s 128
  have h1 := jbc_all (s / 128) (by omega) (s % 128) (Nat.mod_lt _ (by decide))
  rw [e] at h1
  exact h1
end
section
/-! THE CLAIM'S OWN WORDS: K = the launch, the classes' numbers, the array classes -/
abbrev zK : Type := Launch × va_G × ClassId × ClassId × ClassId × ClassId
abbrev cI (K : zK) : ClassId := K.2.2.1
abbrev cJ (K : zK) : ClassId := K.2.2.2.1
abbrev cB (K : zK) : ClassId := K.2.2.2.2.1
abbrev cZ (K : zK) : ClassId := K.2.2.2.2.2
abbrev tz (K : zK) : List (ClassId × FieldType) := [(cI K, .int), (cJ K, .long), (cB K, .byte), (cZ K, .boolean)]
abbrev gz (K : zK) (rm : Room) (n : Nat) (c : ByteArray) (own : String) : zv_G := (K.1, rm, K.2.1, vwCl, tz K, n, c, own, zt)
/-- a contract with some state of answers S -/
abbrev zM {S : Type} (K : zK) (y : MethodName) (c : ByteArray) (n : Nat) (r : Option FieldType) (rm : Room) (ar : List Value) (wc : va_W) (post : S → Prop) (ret : S → Option Value) (w1 : S → va_W) : Prop := zv_M K.1 K.2.1 vwCl (tz K) y (zw y c n r) rm ar wc post ret w1
/-- a contract with one answer -/
abbrev zD (K : zK) (y : MethodName) (c : ByteArray) (n : Nat) (r : Option FieldType) (rm : Room) (ar : List Value) (wc : va_W) (ret : Option Value) (w1 : va_W) : Prop := zM (S := Unit) K y c n r rm ar wc (fun _ => True) (fun _ => ret) (fun _ => w1)
theorem zo {S : Type} {K : zK} {y : MethodName} {rm : Room} {ar : List Value} {wc : va_W} {post : S → Prop} {ret : S → Option Value} {w1 : S → va_W} {cc : ByteArray} {maxL : Nat} {rt : Option FieldType} (hy : plainName y.cls = true) (hlen : (lg_sl ar).length ≤ maxL)
    (body : ∀ x : zv_X, zv_C x (gz K rm maxL cc y.cls) → zv_Rt x (gz K rm maxL cc y.cls) rt rm post ret w1 → zv_nm x y.name → zv_V x (gz K rm maxL cc y.cls) 0 (lv_args 0 ar) [] wc 0 0) : zM K y cc maxL rt rm ar wc post ret w1 :=
  zv_of hy rfl (fun w h => List.mem_cons_of_mem _ h) zt_cl hlen body
theorem zr {S : Type} {x : zv_X} {g : zv_G} {rt : Option FieldType} {rm : Room} {post : S → Prop} {ret : S → Option Value} {w1 : S → va_W} (R : zv_Rt x g rt rm post ret w1) (u : S) (is : List Nat) (r : Option Value) (w : va_W) {pc : Nat} {lv : zv_L} {ws : va_W} {ce sl : Nat} (e : ret u = r) (ew : w1 u = w) (hp : post u) (hw : is.map (fun i => ws[i]?) = w.map some) (hn : va_nd is = true) (hc : ce ≤ rm.cells) (hs : sl ≤ rm.slots) (hk : zv_rok g.2.2.2.2.2.2.1 pc rt r) : zv_V x g pc lv r.toList ws ce sl := by
  subst e
  subst ew
  exact R u pc lv ws ce sl is hp hw hn hc hs hk
/-- truth as the machine has it -/
def bI (b : Bool) : Int32 := bif b then 1 else 0
theorem bI_0 {b : Bool} : bI b = 0 ↔ b = false := by cases b <;> simp [bI]
theorem bI_1 {b : Bool} : ¬ bI b = 0 ↔ b = true := by cases b <;> simp [bI]
theorem bI_nar (b : Bool) : narrow .boolean (.int (bI b)) = .int (bI b) := by cases b <;> rfl
abbrev zq (f c s l : Nat) : Room := { frames := f, cells := c, slots := s, locals := l }
section ZX
variable {x : zv_X} {l : Launch} {R : Room} {D : va_G} {cl : List vw_C} {tys : List (ClassId × FieldType)} {nL : Nat} {cc : ByteArray} {own : String} {Ts : List Jvm.Cond}
variable {pc pc' : Nat} {lv lv' : zv_L} {st st' : List Value} {ws ws' : va_W} {ce sl ce' sl' : Nat}
theorem zv_to (C : zv_C x (l, R, D, cl, tys, nL, cc, own, Ts)) (e1 : lv = lv') (e2 : st = st') (e3 : ws = ws') (k : zv_V x (l, R, D, cl, tys, nL, cc, own, Ts) pc lv' st' ws' ce sl) : zv_V x (l, R, D, cl, tys, nL, cc, own, Ts) pc lv st ws ce sl := by
  subst e1
  subst e2
  subst e3
  exact k
theorem zv_arrV {cA : ClassId} {n : Nat} {f g : Nat → Value} (h : ∀ j, j < n → f j = g j) : arrV cA n f = arrV cA n g := by
  unfold arrV
  have e : (Array.ofFn fun i : Fin n => f i.val) = Array.ofFn fun i : Fin n => g i.val := by
    congr 1
    funext i
    exact h i.val i.isLt
  first | rw [e] | simp only [e] | (congr 1)
/-- an array's contents, as far as it is long -/
theorem zv_exI (C : zv_C x (l, R, D, cl, tys, nL, cc, own, Ts)) (q0 : Nat) {a : Nat} {cA : ClassId} {n : Nat} {f : Nat → Int32} (g : Nat → Int32) (hw : ws[q0]? = some (a, .inl (cA, n, .inl f))) (hfg : ∀ j, j < n → f j = g j) (k : zv_V x (l, R, D, cl, tys, nL, cc, own, Ts) pc lv st (ws.set q0 (a, .inl (cA, n, .inl g))) ce sl) : zv_V x (l, R, D, cl, tys, nL, cc, own, Ts) pc lv st ws ce sl := by
  obtain ⟨p, e, s, m, args, below, meth, c, A, Q⟩ := x
  intro H locs ls hP hD hS hl
  refine k H locs ls (hP.set hD hw ?_ (fun _ _ => rfl)) (hD.set hw) hS hl
  have h1 := hP q0 _ hw
  have h2 : vp_cell cA (n, .inl f) = vp_cell cA (n, .inl g) := by
    show arrV cA n (fun j => Value.int (f j)) = arrV cA n (fun j => Value.int (g j))
    exact zv_arrV (fun j hj => by rw [hfg j hj])
  show H[a]? = some (vp_cell cA (n, .inl g))
  rw [← h2]
  exact h1
theorem zv_exL (C : zv_C x (l, R, D, cl, tys, nL, cc, own, Ts)) (q0 : Nat) {a : Nat} {cA : ClassId} {n : Nat} {f : Nat → Int64} (g : Nat → Int64) (hw : ws[q0]? = some (a, .inl (cA, n, .inr (.inl f)))) (hfg : ∀ j, j < n → f j = g j) (k : zv_V x (l, R, D, cl, tys, nL, cc, own, Ts) pc lv st (ws.set q0 (a, .inl (cA, n, .inr (.inl g)))) ce sl) : zv_V x (l, R, D, cl, tys, nL, cc, own, Ts) pc lv st ws ce sl := by
  obtain ⟨p, e, s, m, args, below, meth, c, A, Q⟩ := x
  intro H locs ls hP hD hS hl
  refine k H locs ls (hP.set hD hw ?_ (fun _ _ => rfl)) (hD.set hw) hS hl
  have h1 := hP q0 _ hw
  have h2 : vp_cell cA (n, .inr (.inl f)) = vp_cell cA (n, .inr (.inl g)) := by
    show arrV cA n (fun j => Value.long (f j)) = arrV cA n (fun j => Value.long (g j))
    exact zv_arrV (fun j hj => by rw [hfg j hj])
  show H[a]? = some (vp_cell cA (n, .inr (.inl g)))
  rw [← h2]
  exact h1
end ZX
end
section
def tbJ6_bitCount_0f7a4 : List zv_I := [(0, .iload_n 0, 1, (0, 0, 0, 0, 0, 0)), (1, .iload_n 0, 2, (0, 0, 0, 0, 0, 0)), (2, .iconst 1, 3, (0, 0, 0, 0, 1, 0)), (3, .iushr, 4, (0, 0, 0, 0, 0, 0)), (4, .ldc_w 265, 7, (0, 0, 0, 0, 1431655765, 0)), (7, .iand, 8, (0, 0, 0, 0, 0, 0)), (8, .isub, 9, (0, 0, 0, 0, 0, 0)), (9, .istore_n 0, 10, (0, 0, 0, 0, 0, 0)), (10, .iload_n 0, 11, (0, 0, 0, 0, 0, 0)), (11, .ldc_w 266, 14, (0, 0, 0, 0, 858993459, 0)), (14, .iand, 15, (0, 0, 0, 0, 0, 0)), (15, .iload_n 0, 16, (0, 0, 0, 0, 0, 0)), (16, .iconst 2, 17, (0, 0, 0, 0, 2, 0)), (17, .iushr, 18, (0, 0, 0, 0, 0, 0)), (18, .ldc_w 266, 21, (0, 0, 0, 0, 858993459, 0)), (21, .iand, 22, (0, 0, 0, 0, 0, 0)), (22, .iadd, 23, (0, 0, 0, 0, 0, 0)), (23, .istore_n 0, 24, (0, 0, 0, 0, 0, 0)), (24, .iload_n 0, 25, (0, 0, 0, 0, 0, 0)), (25, .iload_n 0, 26, (0, 0, 0, 0, 0, 0)), (26, .iconst 4, 27, (0, 0, 0, 0, 4, 0)), (27, .iushr, 28, (0, 0, 0, 0, 0, 0)), (28, .iadd, 29, (0, 0, 0, 0, 0, 0)), (29, .ldc_w 267, 32, (0, 0, 0, 0, 252645135, 0)), (32, .iand, 33, (0, 0, 0, 0, 0, 0)), (33, .istore_n 0, 34, (0, 0, 0, 0, 0, 0)), (34, .iload_n 0, 35, (0, 0, 0, 0, 0, 0)), (35, .iload_n 0, 36, (0, 0, 0, 0, 0, 0)), (36, .bipush 8, 38, (0, 0, 0, 0, 8, 0)), (38, .iushr, 39, (0, 0, 0, 0, 0, 0)), (39, .iadd, 40, (0, 0, 0, 0, 0, 0)), (40, .istore_n 0, 41, (0, 0, 0, 0, 0, 0)), (41, .iload_n 0, 42, (0, 0, 0, 0, 0, 0)), (42, .iload_n 0, 43, (0, 0, 0, 0, 0, 0)), (43, .bipush 16, 45, (0, 0, 0, 0, 16, 0)), (45, .iushr, 46, (0, 0, 0, 0, 0, 0)), (46, .iadd, 47, (0, 0, 0, 0, 0, 0)), (47, .istore_n 0, 48, (0, 0, 0, 0, 0, 0)), (48, .iload_n 0, 49, (0, 0, 0, 0, 0, 0)), (49, .bipush 63, 51, (0, 0, 0, 0, 63, 0)), (51, .iand, 52, (0, 0, 0, 0, 0, 0)), (52, .ireturn, 53, (0, 0, 0, 0, 0, 0))]
theorem okJ6_bitCount_0f7a4 : zv_ok 1 cJ6_bitCount_0f7a4 RJ6 zt vwCl tbJ6_bitCount_0f7a4 = true := by decide +kernel
theorem dzJ6_bitCount_0f7a4_52 : decode cJ6_bitCount_0f7a4 52 = .ok (.ireturn, 1) := by decide +kernel
set_option maxRecDepth 100000 in
theorem inJ6_bitCount_0f7a4 : Jvm.Cond.code yJ6_bitCount_0f7a4 cJ6_bitCount_0f7a4 1 ((some .int)) ∈ zt := List.mem_filter.mpr ⟨List.mem_append_right _ (List.mem_of_getElem? (i := 257) rfl), rfl⟩
def tbJ9_min_7cf53 : List zv_I := [(0, .iload_n 0, 1, (0, 0, 0, 0, 0, 0)), (1, .iload_n 1, 2, (0, 0, 0, 0, 0, 0)), (2, .if_icmp .gt 7, 5, (9, 0, 0, 0, 0, 0)), (5, .iload_n 0, 6, (0, 0, 0, 0, 0, 0)), (6, .goto 4, 9, (10, 0, 0, 0, 0, 0)), (9, .iload_n 1, 10, (0, 0, 0, 0, 0, 0)), (10, .ireturn, 11, (0, 0, 0, 0, 0, 0))]
theorem okJ9_min_7cf53 : zv_ok 2 cJ9_min_7cf53 RJ9 zt vwCl tbJ9_min_7cf53 = true := by decide +kernel
theorem dzJ9_min_7cf53_10 : decode cJ9_min_7cf53 10 = .ok (.ireturn, 1) := by decide +kernel
set_option maxRecDepth 100000 in
theorem inJ9_min_7cf53 : Jvm.Cond.code yJ9_min_7cf53 cJ9_min_7cf53 2 ((some .int)) ∈ zt := List.mem_filter.mpr ⟨List.mem_append_right _ (List.mem_of_getElem? (i := 404) rfl), rfl⟩
def tbJ7_fill_d0a16 : List zv_I := [(0, .iconst 0, 1, (0, 0, 0, 0, 0, 0)), (1, .istore_n 3, 2, (0, 0, 0, 0, 0, 0)), (2, .aload_n 0, 3, (0, 0, 0, 0, 0, 0)), (3, .arraylength, 4, (0, 1, 0, 1, 0, 0)), (4, .istore 4, 6, (0, 0, 0, 0, 0, 0)), (6, .iload_n 3, 7, (0, 0, 0, 0, 0, 0)), (7, .iload 4, 9, (0, 0, 0, 0, 0, 0)), (9, .if_icmp .ge 13, 12, (22, 0, 0, 0, 0, 0)), (12, .aload_n 0, 13, (0, 0, 0, 0, 0, 0)), (13, .iload_n 3, 14, (0, 0, 0, 0, 0, 0)), (14, .lload_n 1, 15, (0, 0, 0, 0, 0, 0)), (15, .lastore, 16, (0, 1, 0, 1, 0, 0)), (16, .iinc 3 1, 19, (0, 0, 0, 0, 1, 0)), (19, .goto (-13), 22, (6, 0, 0, 0, 0, 0)), (22, .return_, 23, (0, 0, 0, 0, 0, 0))]
theorem okJ7_fill_d0a16 : zv_ok 5 cJ7_fill_d0a16 RJ7 zt vwCl tbJ7_fill_d0a16 = true := by decide +kernel
theorem dzJ7_fill_d0a16_22 : decode cJ7_fill_d0a16 22 = .ok (.return_, 1) := by decide +kernel
set_option maxRecDepth 100000 in
theorem inJ7_fill_d0a16 : Jvm.Cond.code yJ7_fill_d0a16 cJ7_fill_d0a16 5 none ∈ zt := List.mem_filter.mpr ⟨List.mem_append_right _ (List.mem_of_getElem? (i := 364) rfl), rfl⟩
def tbJ7_copyOf_59c91 : List zv_I := [(0, .iload_n 1, 1, (0, 0, 0, 0, 0, 0)), (1, .aload_n 0, 2, (0, 0, 0, 0, 0, 0)), (2, .arraylength, 3, (0, 0, 0, 0, 0, 0)), (3, .if_icmp .ne 11, 6, (14, 0, 0, 0, 0, 0)), (6, .aload_n 0, 7, (0, 0, 0, 0, 0, 0)), (7, .invokevirtual 316, 10, (0, 0, 0, 0, 0, 0)), (10, .checkcast 317, 13, (0, 0, 0, 0, 0, 0)), (13, .areturn, 14, (0, 0, 0, 0, 0, 0)), (14, .iload_n 1, 15, (0, 0, 0, 0, 0, 0)), (15, .newarray .int, 17, (0, 0, 0, 0, 0, 0)), (17, .astore_n 2, 18, (0, 0, 0, 0, 0, 0)), (18, .aload_n 0, 19, (0, 0, 0, 0, 0, 0)), (19, .iconst 0, 20, (0, 0, 0, 0, 0, 0)), (20, .aload_n 2, 21, (0, 0, 0, 0, 0, 0)), (21, .iconst 0, 22, (0, 0, 0, 0, 0, 0)), (22, .aload_n 0, 23, (0, 0, 0, 0, 0, 0)), (23, .arraylength, 24, (0, 0, 0, 0, 0, 0)), (24, .iload_n 1, 25, (0, 0, 0, 0, 0, 0)), (25, .invokestatic 304, 28, (0, 0, 0, 0, 0, 0)), (28, .invokestatic 150, 31, (0, 0, 0, 0, 0, 0)), (31, .aload_n 2, 32, (0, 0, 0, 0, 0, 0)), (32, .areturn, 33, (0, 0, 0, 0, 0, 0))]
theorem okJ7_copyOf_59c91 : zv_ok 3 cJ7_copyOf_59c91 RJ7 zt vwCl tbJ7_copyOf_59c91 = true := by decide +kernel
theorem dzJ7_copyOf_59c91_7 : decode cJ7_copyOf_59c91 7 = .ok (.invokevirtual 316, 3) := by decide +kernel
theorem dzJ7_copyOf_59c91_10 : decode cJ7_copyOf_59c91 10 = .ok (.checkcast 317, 3) := by decide +kernel
theorem dzJ7_copyOf_59c91_13 : decode cJ7_copyOf_59c91 13 = .ok (.areturn, 1) := by decide +kernel
theorem dzJ7_copyOf_59c91_15 : decode cJ7_copyOf_59c91 15 = .ok (.newarray .int, 2) := by decide +kernel
theorem dzJ7_copyOf_59c91_25 : decode cJ7_copyOf_59c91 25 = .ok (.invokestatic 304, 3) := by decide +kernel
theorem dzJ7_copyOf_59c91_28 : decode cJ7_copyOf_59c91 28 = .ok (.invokestatic 150, 3) := by decide +kernel
theorem dzJ7_copyOf_59c91_32 : decode cJ7_copyOf_59c91 32 = .ok (.areturn, 1) := by decide +kernel
set_option maxRecDepth 100000 in
theorem inJ7_copyOf_59c91 : Jvm.Cond.code yJ7_copyOf_59c91 cJ7_copyOf_59c91 3 ((some (.array .int))) ∈ zt := List.mem_filter.mpr ⟨List.mem_append_right _ (List.mem_of_getElem? (i := 394) rfl), rfl⟩
def tbX4_init : List zv_I := [(0, .aload_n 0, 1, (0, 0, 0, 0, 0, 0)), (1, .invokespecial 3, 4, (0, 0, 0, 0, 0, 0)), (4, .aload_n 0, 5, (0, 0, 0, 0, 0, 0)), (5, .bipush 14, 7, (0, 0, 0, 0, 14, 0)), (7, .newarray .int, 9, (0, 0, 0, 0, 0, 0)), (12, .aload_n 0, 13, (0, 0, 0, 0, 0, 0)), (13, .bipush 14, 15, (0, 0, 0, 0, 14, 0)), (15, .newarray .int, 17, (0, 0, 0, 0, 0, 0)), (20, .aload_n 0, 21, (0, 0, 0, 0, 0, 0)), (21, .iconst 1, 22, (0, 0, 0, 0, 1, 0)), (22, .putfield 18, 25, (0, 4, 2, 0, 0, 0)), (25, .aload_n 0, 26, (0, 0, 0, 0, 0, 0)), (26, .iconst 0, 27, (0, 0, 0, 0, 0, 0)), (27, .putfield 22, 30, (0, 4, 3, 0, 0, 0)), (30, .return_, 31, (0, 0, 0, 0, 0, 0))]
theorem okX4_init : zv_ok 1 cX4_init RX4 zt vwCl tbX4_init = true := by decide +kernel
theorem dzX4_init_1 : decode cX4_init 1 = .ok (.invokespecial 3, 3) := by decide +kernel
theorem dzX4_init_7 : decode cX4_init 7 = .ok (.newarray .int, 2) := by decide +kernel
theorem dzX4_init_9 : decode cX4_init 9 = .ok (.putfield 9, 3) := by decide +kernel
theorem dzX4_init_15 : decode cX4_init 15 = .ok (.newarray .int, 2) := by decide +kernel
theorem dzX4_init_17 : decode cX4_init 17 = .ok (.putfield 15, 3) := by decide +kernel
theorem dzX4_init_30 : decode cX4_init 30 = .ok (.return_, 1) := by decide +kernel
set_option maxRecDepth 100000 in
theorem inX4_init : Jvm.Cond.code yX4_init cX4_init 1 none ∈ zt := List.mem_filter.mpr ⟨List.mem_append_right _ (List.mem_of_getElem? (i := 27) rfl), rfl⟩
def tbX4_startWith : List zv_I := [(0, .aload_n 0, 1, (0, 0, 0, 0, 0, 0)), (1, .iload_n 1, 2, (0, 0, 0, 0, 0, 0)), (2, .putfield 18, 5, (0, 4, 2, 0, 0, 0)), (5, .iconst 0, 6, (0, 0, 0, 0, 0, 0)), (6, .istore_n 2, 7, (0, 0, 0, 0, 0, 0)), (7, .iload_n 2, 8, (0, 0, 0, 0, 0, 0)), (8, .bipush 14, 10, (0, 0, 0, 0, 14, 0)), (10, .if_icmp .ge 23, 13, (33, 0, 0, 0, 0, 0)), (13, .aload_n 0, 14, (0, 0, 0, 0, 0, 0)), (14, .getfield 9, 17, (0, 4, 0, 0, 0, 0)), (17, .iload_n 2, 18, (0, 0, 0, 0, 0, 0)), (18, .iconst 0, 19, (0, 0, 0, 0, 0, 0)), (19, .iastore, 20, (1, 0, 0, 0, 0, 0)), (20, .aload_n 0, 21, (0, 0, 0, 0, 0, 0)), (21, .getfield 15, 24, (0, 4, 1, 0, 0, 0)), (24, .iload_n 2, 25, (0, 0, 0, 0, 0, 0)), (25, .iconst 0, 26, (0, 0, 0, 0, 0, 0)), (26, .iastore, 27, (2, 0, 0, 0, 0, 0)), (27, .iinc 2 1, 30, (0, 0, 0, 0, 1, 0)), (30, .goto (-23), 33, (7, 0, 0, 0, 0, 0)), (33, .aload_n 0, 34, (0, 0, 0, 0, 0, 0)), (34, .dup, 35, (0, 0, 0, 0, 0, 0)), (35, .getfield 22, 38, (0, 4, 3, 0, 0, 0)), (38, .iconst 1, 39, (0, 0, 0, 0, 1, 0)), (39, .iadd, 40, (0, 0, 0, 0, 0, 0)), (40, .putfield 22, 43, (0, 4, 3, 0, 0, 0)), (43, .return_, 44, (0, 0, 0, 0, 0, 0))]
theorem okX4_startWith : zv_ok 3 cX4_startWith RX4 zt vwCl tbX4_startWith = true := by decide +kernel
theorem dzX4_startWith_43 : decode cX4_startWith 43 = .ok (.return_, 1) := by decide +kernel
set_option maxRecDepth 100000 in
theorem inX4_startWith : Jvm.Cond.code yX4_startWith cX4_startWith 3 none ∈ zt := List.mem_filter.mpr ⟨List.mem_append_right _ (List.mem_of_getElem? (i := 230) rfl), rfl⟩
def tbX4_has : List zv_I := [(0, .iload_n 1, 1, (0, 0, 0, 0, 0, 0)), (1, .ifCond .lt 15, 4, (16, 0, 0, 0, 0, 0)), (4, .iload_n 1, 5, (0, 0, 0, 0, 0, 0)), (5, .aload_n 0, 6, (0, 0, 0, 0, 0, 0)), (6, .getfield 18, 9, (0, 4, 2, 0, 0, 0)), (9, .if_icmp .ge 7, 12, (16, 0, 0, 0, 0, 0)), (12, .iconst 1, 13, (0, 0, 0, 0, 1, 0)), (13, .goto 4, 16, (17, 0, 0, 0, 0, 0)), (16, .iconst 0, 17, (0, 0, 0, 0, 0, 0)), (17, .ireturn, 18, (0, 0, 0, 0, 0, 0))]
theorem okX4_has : zv_ok 2 cX4_has RX4 zt vwCl tbX4_has = true := by decide +kernel
theorem dzX4_has_17 : decode cX4_has 17 = .ok (.ireturn, 1) := by decide +kernel
set_option maxRecDepth 100000 in
theorem inX4_has : Jvm.Cond.code yX4_has cX4_has 2 ((some .boolean)) ∈ zt := List.mem_filter.mpr ⟨List.mem_append_right _ (List.mem_of_getElem? (i := 238) rfl), rfl⟩
def tbX4_all : List zv_I := [(0, .iconst 1, 1, (0, 0, 0, 0, 1, 0)), (1, .aload_n 0, 2, (0, 0, 0, 0, 0, 0)), (2, .getfield 18, 5, (0, 4, 2, 0, 0, 0)), (5, .ishl, 6, (0, 0, 0, 0, 0, 0)), (6, .iconst 1, 7, (0, 0, 0, 0, 1, 0)), (7, .isub, 8, (0, 0, 0, 0, 0, 0)), (8, .ireturn, 9, (0, 0, 0, 0, 0, 0))]
theorem okX4_all : zv_ok 1 cX4_all RX4 zt vwCl tbX4_all = true := by decide +kernel
theorem dzX4_all_8 : decode cX4_all 8 = .ok (.ireturn, 1) := by decide +kernel
set_option maxRecDepth 100000 in
theorem inX4_all : Jvm.Cond.code yX4_all cX4_all 1 ((some .int)) ∈ zt := List.mem_filter.mpr ⟨List.mem_append_right _ (List.mem_of_getElem? (i := 309) rfl), rfl⟩
def tbX4_under : List zv_I := [(0, .aload_n 0, 1, (0, 0, 0, 0, 0, 0)), (1, .getfield 15, 4, (0, 4, 1, 0, 0, 0)), (4, .iload_n 1, 5, (0, 0, 0, 0, 0, 0)), (5, .iaload, 6, (2, 0, 0, 0, 0, 0)), (6, .iconst 1, 7, (0, 0, 0, 0, 1, 0)), (7, .iload_n 2, 8, (0, 0, 0, 0, 0, 0)), (8, .ishl, 9, (0, 0, 0, 0, 0, 0)), (9, .iand, 10, (0, 0, 0, 0, 0, 0)), (10, .ifCond .eq 7, 13, (17, 0, 0, 0, 0, 0)), (13, .iconst 1, 14, (0, 0, 0, 0, 1, 0)), (14, .goto 4, 17, (18, 0, 0, 0, 0, 0)), (17, .iconst 0, 18, (0, 0, 0, 0, 0, 0)), (18, .ireturn, 19, (0, 0, 0, 0, 0, 0))]
theorem okX4_under : zv_ok 3 cX4_under RX4 zt vwCl tbX4_under = true := by decide +kernel
theorem dzX4_under_18 : decode cX4_under 18 = .ok (.ireturn, 1) := by decide +kernel
set_option maxRecDepth 100000 in
theorem inX4_under : Jvm.Cond.code yX4_under cX4_under 3 ((some .boolean)) ∈ zt := List.mem_filter.mpr ⟨List.mem_append_right _ (List.mem_of_getElem? (i := 242) rfl), rfl⟩
def tbX4_downFrom : List zv_I := [(0, .aload_n 0, 1, (0, 0, 0, 0, 0, 0)), (1, .getfield 9, 4, (0, 4, 0, 0, 0, 0)), (4, .iload_n 1, 5, (0, 0, 0, 0, 0, 0)), (5, .iaload, 6, (1, 0, 0, 0, 0, 0)), (6, .iconst 1, 7, (0, 0, 0, 0, 1, 0)), (7, .iload_n 1, 8, (0, 0, 0, 0, 0, 0)), (8, .ishl, 9, (0, 0, 0, 0, 0, 0)), (9, .ior, 10, (0, 0, 0, 0, 0, 0)), (10, .ireturn, 11, (0, 0, 0, 0, 0, 0))]
theorem okX4_downFrom : zv_ok 2 cX4_downFrom RX4 zt vwCl tbX4_downFrom = true := by decide +kernel
theorem dzX4_downFrom_10 : decode cX4_downFrom 10 = .ok (.ireturn, 1) := by decide +kernel
set_option maxRecDepth 100000 in
theorem inX4_downFrom : Jvm.Cond.code yX4_downFrom cX4_downFrom 2 ((some .int)) ∈ zt := List.mem_filter.mpr ⟨List.mem_append_right _ (List.mem_of_getElem? (i := 250) rfl), rfl⟩
def tbX4_upFrom : List zv_I := [(0, .aload_n 0, 1, (0, 0, 0, 0, 0, 0)), (1, .getfield 15, 4, (0, 4, 1, 0, 0, 0)), (4, .iload_n 1, 5, (0, 0, 0, 0, 0, 0)), (5, .iaload, 6, (2, 0, 0, 0, 0, 0)), (6, .iconst 1, 7, (0, 0, 0, 0, 1, 0)), (7, .iload_n 1, 8, (0, 0, 0, 0, 0, 0)), (8, .ishl, 9, (0, 0, 0, 0, 0, 0)), (9, .ior, 10, (0, 0, 0, 0, 0, 0)), (10, .ireturn, 11, (0, 0, 0, 0, 0, 0))]
theorem okX4_upFrom : zv_ok 2 cX4_upFrom RX4 zt vwCl tbX4_upFrom = true := by decide +kernel
theorem dzX4_upFrom_10 : decode cX4_upFrom 10 = .ok (.ireturn, 1) := by decide +kernel
set_option maxRecDepth 100000 in
theorem inX4_upFrom : Jvm.Cond.code yX4_upFrom cX4_upFrom 2 ((some .int)) ∈ zt := List.mem_filter.mpr ⟨List.mem_append_right _ (List.mem_of_getElem? (i := 254) rfl), rfl⟩
def tbX4_tie : List zv_I := [(0, .aload_n 0, 1, (0, 0, 0, 0, 0, 0)), (1, .iload_n 1, 2, (0, 0, 0, 0, 0, 0)), (2, .invokevirtual 25, 5, (0, 0, 0, 0, 0, 0)), (5, .istore_n 3, 6, (0, 0, 0, 0, 0, 0)), (6, .aload_n 0, 7, (0, 0, 0, 0, 0, 0)), (7, .iload_n 2, 8, (0, 0, 0, 0, 0, 0)), (8, .invokevirtual 29, 11, (0, 0, 0, 0, 0, 0)), (11, .istore 4, 13, (0, 0, 0, 0, 0, 0)), (13, .iconst 0, 14, (0, 0, 0, 0, 0, 0)), (14, .istore 5, 16, (0, 0, 0, 0, 0, 0)), (16, .iconst 0, 17, (0, 0, 0, 0, 0, 0)), (17, .istore 6, 19, (0, 0, 0, 0, 0, 0)), (19, .iload 6, 21, (0, 0, 0, 0, 0, 0)), (21, .aload_n 0, 22, (0, 0, 0, 0, 0, 0)), (22, .getfield 18, 25, (0, 4, 2, 0, 0, 0)), (25, .if_icmp .ge 71, 28, (96, 0, 0, 0, 0, 0)), (28, .iload_n 3, 29, (0, 0, 0, 0, 0, 0)), (29, .iconst 1, 30, (0, 0, 0, 0, 1, 0)), (30, .iload 6, 32, (0, 0, 0, 0, 0, 0)), (32, .ishl, 33, (0, 0, 0, 0, 0, 0)), (33, .iand, 34, (0, 0, 0, 0, 0, 0)), (34, .ifCond .eq 35, 37, (69, 0, 0, 0, 0, 0)), (37, .iload 5, 39, (0, 0, 0, 0, 0, 0)), (39, .iload 4, 41, (0, 0, 0, 0, 0, 0)), (41, .aload_n 0, 42, (0, 0, 0, 0, 0, 0)), (42, .getfield 15, 45, (0, 4, 1, 0, 0, 0)), (45, .iload 6, 47, (0, 0, 0, 0, 0, 0)), (47, .iaload, 48, (2, 0, 0, 0, 0, 0)), (48, .iconst (-1), 49, (0, 0, 0, 0, (-1), 0)), (49, .ixor, 50, (0, 0, 0, 0, 0, 0)), (50, .iand, 51, (0, 0, 0, 0, 0, 0)), (51, .invokestatic 32, 54, (0, 0, 0, 0, 0, 0)), (54, .iadd, 55, (0, 0, 0, 0, 0, 0)), (55, .istore 5, 57, (0, 0, 0, 0, 0, 0)), (57, .aload_n 0, 58, (0, 0, 0, 0, 0, 0)), (58, .getfield 15, 61, (0, 4, 1, 0, 0, 0)), (61, .iload 6, 63, (0, 0, 0, 0, 0, 0)), (63, .dup2, 64, (0, 0, 0, 0, 0, 0)), (64, .iaload, 65, (2, 0, 0, 0, 0, 0)), (65, .iload 4, 67, (0, 0, 0, 0, 0, 0)), (67, .ior, 68, (0, 0, 0, 0, 0, 0)), (68, .iastore, 69, (2, 0, 0, 0, 0, 0)), (69, .iload 4, 71, (0, 0, 0, 0, 0, 0)), (71, .iconst 1, 72, (0, 0, 0, 0, 1, 0)), (72, .iload 6, 74, (0, 0, 0, 0, 0, 0)), (74, .ishl, 75, (0, 0, 0, 0, 0, 0)), (75, .iand, 76, (0, 0, 0, 0, 0, 0)), (76, .ifCond .eq 14, 79, (90, 0, 0, 0, 0, 0)), (79, .aload_n 0, 80, (0, 0, 0, 0, 0, 0)), (80, .getfield 9, 83, (0, 4, 0, 0, 0, 0)), (83, .iload 6, 85, (0, 0, 0, 0, 0, 0)), (85, .dup2, 86, (0, 0, 0, 0, 0, 0)), (86, .iaload, 87, (1, 0, 0, 0, 0, 0)), (87, .iload_n 3, 88, (0, 0, 0, 0, 0, 0)), (88, .ior, 89, (0, 0, 0, 0, 0, 0)), (89, .iastore, 90, (1, 0, 0, 0, 0, 0)), (90, .iinc 6 1, 93, (0, 0, 0, 0, 1, 0)), (93, .goto (-74), 96, (19, 0, 0, 0, 0, 0)), (96, .aload_n 0, 97, (0, 0, 0, 0, 0, 0)), (97, .iload 5, 99, (0, 0, 0, 0, 0, 0)), (99, .invokevirtual 37, 102, (0, 0, 0, 0, 0, 0)), (102, .iload 5, 104, (0, 0, 0, 0, 0, 0)), (104, .ireturn, 105, (0, 0, 0, 0, 0, 0))]
theorem okX4_tie : zv_ok 7 cX4_tie RX4 zt vwCl tbX4_tie = true := by decide +kernel
theorem dzX4_tie_2 : decode cX4_tie 2 = .ok (.invokevirtual 25, 3) := by decide +kernel
theorem dzX4_tie_8 : decode cX4_tie 8 = .ok (.invokevirtual 29, 3) := by decide +kernel
theorem dzX4_tie_51 : decode cX4_tie 51 = .ok (.invokestatic 32, 3) := by decide +kernel
theorem dzX4_tie_99 : decode cX4_tie 99 = .ok (.invokevirtual 37, 3) := by decide +kernel
theorem dzX4_tie_104 : decode cX4_tie 104 = .ok (.ireturn, 1) := by decide +kernel
set_option maxRecDepth 100000 in
theorem inX4_tie : Jvm.Cond.code yX4_tie cX4_tie 7 ((some .int)) ∈ zt := List.mem_filter.mpr ⟨List.mem_append_right _ (List.mem_of_getElem? (i := 246) rfl), rfl⟩
def tbX4_untie : List zv_I := [(0, .aload_n 0, 1, (0, 0, 0, 0, 0, 0)), (1, .getfield 9, 4, (0, 4, 0, 0, 0, 0)), (4, .iload_n 1, 5, (0, 0, 0, 0, 0, 0)), (5, .iaload, 6, (1, 0, 0, 0, 0, 0)), (6, .invokestatic 32, 9, (0, 0, 0, 0, 0, 0)), (9, .aload_n 0, 10, (0, 0, 0, 0, 0, 0)), (10, .getfield 15, 13, (0, 4, 1, 0, 0, 0)), (13, .iload_n 1, 14, (0, 0, 0, 0, 0, 0)), (14, .iaload, 15, (2, 0, 0, 0, 0, 0)), (15, .invokestatic 32, 18, (0, 0, 0, 0, 0, 0)), (18, .iadd, 19, (0, 0, 0, 0, 0, 0)), (19, .istore_n 2, 20, (0, 0, 0, 0, 0, 0)), (20, .iconst 0, 21, (0, 0, 0, 0, 0, 0)), (21, .istore_n 3, 22, (0, 0, 0, 0, 0, 0)), (22, .iload_n 3, 23, (0, 0, 0, 0, 0, 0)), (23, .aload_n 0, 24, (0, 0, 0, 0, 0, 0)), (24, .getfield 18, 27, (0, 4, 2, 0, 0, 0)), (27, .if_icmp .ge 37, 30, (64, 0, 0, 0, 0, 0)), (30, .aload_n 0, 31, (0, 0, 0, 0, 0, 0)), (31, .getfield 9, 34, (0, 4, 0, 0, 0, 0)), (34, .iload_n 3, 35, (0, 0, 0, 0, 0, 0)), (35, .dup2, 36, (0, 0, 0, 0, 0, 0)), (36, .iaload, 37, (1, 0, 0, 0, 0, 0)), (37, .iconst 1, 38, (0, 0, 0, 0, 1, 0)), (38, .iload_n 1, 39, (0, 0, 0, 0, 0, 0)), (39, .ishl, 40, (0, 0, 0, 0, 0, 0)), (40, .iconst (-1), 41, (0, 0, 0, 0, (-1), 0)), (41, .ixor, 42, (0, 0, 0, 0, 0, 0)), (42, .iand, 43, (0, 0, 0, 0, 0, 0)), (43, .iastore, 44, (1, 0, 0, 0, 0, 0)), (44, .aload_n 0, 45, (0, 0, 0, 0, 0, 0)), (45, .getfield 15, 48, (0, 4, 1, 0, 0, 0)), (48, .iload_n 3, 49, (0, 0, 0, 0, 0, 0)), (49, .dup2, 50, (0, 0, 0, 0, 0, 0)), (50, .iaload, 51, (2, 0, 0, 0, 0, 0)), (51, .iconst 1, 52, (0, 0, 0, 0, 1, 0)), (52, .iload_n 1, 53, (0, 0, 0, 0, 0, 0)), (53, .ishl, 54, (0, 0, 0, 0, 0, 0)), (54, .iconst (-1), 55, (0, 0, 0, 0, (-1), 0)), (55, .ixor, 56, (0, 0, 0, 0, 0, 0)), (56, .iand, 57, (0, 0, 0, 0, 0, 0)), (57, .iastore, 58, (2, 0, 0, 0, 0, 0)), (58, .iinc 3 1, 61, (0, 0, 0, 0, 1, 0)), (61, .goto (-39), 64, (22, 0, 0, 0, 0, 0)), (64, .aload_n 0, 65, (0, 0, 0, 0, 0, 0)), (65, .getfield 9, 68, (0, 4, 0, 0, 0, 0)), (68, .iload_n 1, 69, (0, 0, 0, 0, 0, 0)), (69, .iconst 0, 70, (0, 0, 0, 0, 0, 0)), (70, .iastore, 71, (1, 0, 0, 0, 0, 0)), (71, .aload_n 0, 72, (0, 0, 0, 0, 0, 0)), (72, .getfield 15, 75, (0, 4, 1, 0, 0, 0)), (75, .iload_n 1, 76, (0, 0, 0, 0, 0, 0)), (76, .iconst 0, 77, (0, 0, 0, 0, 0, 0)), (77, .iastore, 78, (2, 0, 0, 0, 0, 0)), (78, .aload_n 0, 79, (0, 0, 0, 0, 0, 0)), (79, .iload_n 2, 80, (0, 0, 0, 0, 0, 0)), (80, .invokevirtual 37, 83, (0, 0, 0, 0, 0, 0)), (83, .iload_n 2, 84, (0, 0, 0, 0, 0, 0)), (84, .ireturn, 85, (0, 0, 0, 0, 0, 0))]
theorem okX4_untie : zv_ok 4 cX4_untie RX4 zt vwCl tbX4_untie = true := by decide +kernel
theorem dzX4_untie_6 : decode cX4_untie 6 = .ok (.invokestatic 32, 3) := by decide +kernel
theorem dzX4_untie_15 : decode cX4_untie 15 = .ok (.invokestatic 32, 3) := by decide +kernel
theorem dzX4_untie_80 : decode cX4_untie 80 = .ok (.invokevirtual 37, 3) := by decide +kernel
theorem dzX4_untie_84 : decode cX4_untie 84 = .ok (.ireturn, 1) := by decide +kernel
set_option maxRecDepth 100000 in
theorem inX4_untie : Jvm.Cond.code yX4_untie cX4_untie 4 ((some .int)) ∈ zt := List.mem_filter.mpr ⟨List.mem_append_right _ (List.mem_of_getElem? (i := 272) rfl), rfl⟩
def tbX4_changeBy : List zv_I := [(0, .iload_n 1, 1, (0, 0, 0, 0, 0, 0)), (1, .ifCond .eq 13, 4, (14, 0, 0, 0, 0, 0)), (4, .aload_n 0, 5, (0, 0, 0, 0, 0, 0)), (5, .dup, 6, (0, 0, 0, 0, 0, 0)), (6, .getfield 22, 9, (0, 4, 3, 0, 0, 0)), (9, .iconst 1, 10, (0, 0, 0, 0, 1, 0)), (10, .iadd, 11, (0, 0, 0, 0, 0, 0)), (11, .putfield 22, 14, (0, 4, 3, 0, 0, 0)), (14, .return_, 15, (0, 0, 0, 0, 0, 0))]
theorem okX4_changeBy : zv_ok 2 cX4_changeBy RX4 zt vwCl tbX4_changeBy = true := by decide +kernel
theorem dzX4_changeBy_14 : decode cX4_changeBy 14 = .ok (.return_, 1) := by decide +kernel
set_option maxRecDepth 100000 in
theorem inX4_changeBy : Jvm.Cond.code yX4_changeBy cX4_changeBy 2 none ∈ zt := List.mem_filter.mpr ⟨List.mem_append_right _ (List.mem_of_getElem? (i := 264) rfl), rfl⟩
def tbX4_pairs : List zv_I := [(0, .iconst 0, 1, (0, 0, 0, 0, 0, 0)), (1, .istore_n 1, 2, (0, 0, 0, 0, 0, 0)), (2, .iconst 0, 3, (0, 0, 0, 0, 0, 0)), (3, .istore_n 2, 4, (0, 0, 0, 0, 0, 0)), (4, .iload_n 2, 5, (0, 0, 0, 0, 0, 0)), (5, .aload_n 0, 6, (0, 0, 0, 0, 0, 0)), (6, .getfield 18, 9, (0, 4, 2, 0, 0, 0)), (9, .if_icmp .ge 21, 12, (30, 0, 0, 0, 0, 0)), (12, .iload_n 1, 13, (0, 0, 0, 0, 0, 0)), (13, .aload_n 0, 14, (0, 0, 0, 0, 0, 0)), (14, .getfield 15, 17, (0, 4, 1, 0, 0, 0)), (17, .iload_n 2, 18, (0, 0, 0, 0, 0, 0)), (18, .iaload, 19, (2, 0, 0, 0, 0, 0)), (19, .invokestatic 32, 22, (0, 0, 0, 0, 0, 0)), (22, .iadd, 23, (0, 0, 0, 0, 0, 0)), (23, .istore_n 1, 24, (0, 0, 0, 0, 0, 0)), (24, .iinc 2 1, 27, (0, 0, 0, 0, 1, 0)), (27, .goto (-23), 30, (4, 0, 0, 0, 0, 0)), (30, .iload_n 1, 31, (0, 0, 0, 0, 0, 0)), (31, .ireturn, 32, (0, 0, 0, 0, 0, 0))]
theorem okX4_pairs : zv_ok 3 cX4_pairs RX4 zt vwCl tbX4_pairs = true := by decide +kernel
theorem dzX4_pairs_19 : decode cX4_pairs 19 = .ok (.invokestatic 32, 3) := by decide +kernel
theorem dzX4_pairs_31 : decode cX4_pairs 31 = .ok (.ireturn, 1) := by decide +kernel
set_option maxRecDepth 100000 in
theorem inX4_pairs : Jvm.Cond.code yX4_pairs cX4_pairs 3 ((some .int)) ∈ zt := List.mem_filter.mpr ⟨List.mem_append_right _ (List.mem_of_getElem? (i := 293) rfl), rfl⟩
def tbX4_coversOf : List zv_I := [(0, .aload_n 0, 1, (0, 0, 0, 0, 0, 0)), (1, .getfield 15, 4, (0, 4, 1, 0, 0, 0)), (4, .iload_n 1, 5, (0, 0, 0, 0, 0, 0)), (5, .iaload, 6, (2, 0, 0, 0, 0, 0)), (6, .istore_n 2, 7, (0, 0, 0, 0, 0, 0)), (7, .iconst 0, 8, (0, 0, 0, 0, 0, 0)), (8, .istore_n 3, 9, (0, 0, 0, 0, 0, 0)), (9, .iload_n 3, 10, (0, 0, 0, 0, 0, 0)), (10, .aload_n 0, 11, (0, 0, 0, 0, 0, 0)), (11, .getfield 18, 14, (0, 4, 2, 0, 0, 0)), (14, .if_icmp .ge 29, 17, (43, 0, 0, 0, 0, 0)), (17, .aload_n 0, 18, (0, 0, 0, 0, 0, 0)), (18, .iload_n 1, 19, (0, 0, 0, 0, 0, 0)), (19, .iload_n 3, 20, (0, 0, 0, 0, 0, 0)), (20, .invokevirtual 41, 23, (0, 0, 0, 0, 0, 0)), (23, .ifCond .eq 14, 26, (37, 0, 0, 0, 0, 0)), (26, .iload_n 2, 27, (0, 0, 0, 0, 0, 0)), (27, .aload_n 0, 28, (0, 0, 0, 0, 0, 0)), (28, .getfield 15, 31, (0, 4, 1, 0, 0, 0)), (31, .iload_n 3, 32, (0, 0, 0, 0, 0, 0)), (32, .iaload, 33, (2, 0, 0, 0, 0, 0)), (33, .iconst (-1), 34, (0, 0, 0, 0, (-1), 0)), (34, .ixor, 35, (0, 0, 0, 0, 0, 0)), (35, .iand, 36, (0, 0, 0, 0, 0, 0)), (36, .istore_n 2, 37, (0, 0, 0, 0, 0, 0)), (37, .iinc 3 1, 40, (0, 0, 0, 0, 1, 0)), (40, .goto (-31), 43, (9, 0, 0, 0, 0, 0)), (43, .iload_n 2, 44, (0, 0, 0, 0, 0, 0)), (44, .ireturn, 45, (0, 0, 0, 0, 0, 0))]
theorem okX4_coversOf : zv_ok 4 cX4_coversOf RX4 zt vwCl tbX4_coversOf = true := by decide +kernel
theorem dzX4_coversOf_20 : decode cX4_coversOf 20 = .ok (.invokevirtual 41, 3) := by decide +kernel
theorem dzX4_coversOf_44 : decode cX4_coversOf 44 = .ok (.ireturn, 1) := by decide +kernel
set_option maxRecDepth 100000 in
theorem inX4_coversOf : Jvm.Cond.code yX4_coversOf cX4_coversOf 4 ((some .int)) ∈ zt := List.mem_filter.mpr ⟨List.mem_append_right _ (List.mem_of_getElem? (i := 284) rfl), rfl⟩
def tbX4_canFollow : List zv_I := [(0, .aload_n 0, 1, (0, 0, 0, 0, 0, 0)), (1, .iload_n 2, 2, (0, 0, 0, 0, 0, 0)), (2, .invokevirtual 25, 5, (0, 0, 0, 0, 0, 0)), (5, .iload_n 1, 6, (0, 0, 0, 0, 0, 0)), (6, .iconst (-1), 7, (0, 0, 0, 0, (-1), 0)), (7, .ixor, 8, (0, 0, 0, 0, 0, 0)), (8, .iand, 9, (0, 0, 0, 0, 0, 0)), (9, .iconst 1, 10, (0, 0, 0, 0, 1, 0)), (10, .iload_n 2, 11, (0, 0, 0, 0, 0, 0)), (11, .ishl, 12, (0, 0, 0, 0, 0, 0)), (12, .if_icmp .ne 7, 15, (19, 0, 0, 0, 0, 0)), (15, .iconst 1, 16, (0, 0, 0, 0, 1, 0)), (16, .goto 4, 19, (20, 0, 0, 0, 0, 0)), (19, .iconst 0, 20, (0, 0, 0, 0, 0, 0)), (20, .ireturn, 21, (0, 0, 0, 0, 0, 0))]
theorem okX4_canFollow : zv_ok 3 cX4_canFollow RX4 zt vwCl tbX4_canFollow = true := by decide +kernel
theorem dzX4_canFollow_2 : decode cX4_canFollow 2 = .ok (.invokevirtual 25, 3) := by decide +kernel
theorem dzX4_canFollow_20 : decode cX4_canFollow 20 = .ok (.ireturn, 1) := by decide +kernel
set_option maxRecDepth 100000 in
theorem inX4_canFollow : Jvm.Cond.code yX4_canFollow cX4_canFollow 3 ((some .boolean)) ∈ zt := List.mem_filter.mpr ⟨List.mem_append_right _ (List.mem_of_getElem? (i := 482) rfl), rfl⟩
end
section
/-! ORDER: the leaves. bl j, ab j: the sets below and above thing j; n things; ver: how often it changed -/
abbrev wO (K : zK) (o b a : Nat) (bl ab : Nat → Nat) (n : Nat) (ver : Int32) : va_W := [(o, .inr (4, [.ref b, .ref a, .int (nI n), .int ver])), (b, .inl (cI K, 14, .inl (fun j => nI (bl j)))), (a, .inl (cI K, 14, .inl (fun j => nI (ab j))))]
def hasb (n : Nat) (v : Int32) : Bool := decide (0 ≤ v ∧ v < nI n)
set_option maxHeartbeats 4000000 in
set_option maxRecDepth 100000 in
theorem c_has (K : zK) (o b a : Nat) (bl ab : Nat → Nat) (n : Nat) (ver v : Int32) : zD K yX4_has cX4_has 2 (some .boolean) (zq 0 0 0 0) [.ref o, .int v] (wO K o b a bl ab n ver) (some (.int (bI (hasb n v)))) (wO K o b a bl ab n ver) := by
  refine zo (by decide) (Nat.le_of_ble_eq_true rfl) fun x C R _ => ?_
  refine zv_go C okX4_has [] 20 ?_
  refine ⟨fun h => ?_, fun h => ⟨rfl, fun h2 => ?_, fun h2 => ?_⟩⟩
  · exact zr R () [0, 1, 2] (some (.int 0)) _ (by unfold hasb; rw [decide_eq_false]; rfl; exact fun q => absurd q.1 (Int32.not_le.mpr h)) rfl trivial rfl rfl (Nat.le_refl _) (Nat.le_refl _) ⟨rfl, dzX4_has_17⟩
  · exact zr R () [0, 1, 2] (some (.int 0)) _ (by unfold hasb; rw [decide_eq_false]; rfl; exact fun q => absurd q.2 (Int32.not_lt.mpr h2)) rfl trivial rfl rfl (Nat.le_refl _) (Nat.le_refl _) ⟨rfl, dzX4_has_17⟩
  · exact zr R () [0, 1, 2] (some (.int 1)) _ (by unfold hasb; rw [decide_eq_true]; rfl; exact ⟨Int32.not_lt.mp h, Int32.not_le.mp h2⟩) rfl trivial rfl rfl (Nat.le_refl _) (Nat.le_refl _) ⟨rfl, dzX4_has_17⟩
set_option maxHeartbeats 4000000 in
set_option maxRecDepth 100000 in
theorem c_all (K : zK) (o b a : Nat) (bl ab : Nat → Nat) (n : Nat) (ver : Int32) (hn : n ≤ 14) : zD K yX4_all cX4_all 1 (some .int) (zq 0 0 0 0) [.ref o] (wO K o b a bl ab n ver) (some (.int (nI (2 ^ n - 1)))) (wO K o b a bl ab n ver) := by
  refine zo (by decide) (Nat.le_of_ble_eq_true rfl) fun x C R _ => ?_
  refine zv_go C okX4_all [] 20 ?_
  refine ⟨rfl, ?_⟩
  exact zr R () [0, 1, 2] (some (.int _)) _ (by rw [← nb_all n (by omega)]) rfl trivial rfl rfl (Nat.le_refl _) (Nat.le_refl _) dzX4_all_8
set_option maxHeartbeats 4000000 in
set_option maxRecDepth 100000 in
theorem c_under (K : zK) (o b a : Nat) (bl ab : Nat → Nat) (n : Nat) (ver : Int32) {i j : Nat} (hi : i < 14) (hj : j < 32) (hs : ab i < 2 ^ 32) : zD K yX4_under cX4_under 3 (some .boolean) (zq 0 0 0 0) [.ref o, .int (nI i), .int (nI j)] (wO K o b a bl ab n ver) (some (.int (bI ((ab i).testBit j)))) (wO K o b a bl ab n ver) := by
  refine zo (by decide) (Nat.le_of_ble_eq_true rfl) fun x C R _ => ?_
  refine zv_go C okX4_under [] 20 ?_
  refine ⟨rfl, ⟨rfl, rfl⟩, vp_in_nI hi (by decide), fun h => ?_, fun h => ?_⟩
  · rw [nI_clamp (by omega)] at h
    exact zr R () [0, 1, 2] (some (.int 0)) _ (by rw [(nb_t0 hs hj).mp h]; rfl) rfl trivial rfl rfl (Nat.le_refl _) (Nat.le_refl _) ⟨rfl, dzX4_under_18⟩
  · rw [nI_clamp (by omega)] at h
    exact zr R () [0, 1, 2] (some (.int 1)) _ (by rw [(nb_t1 hs hj).mp h]; rfl) rfl trivial rfl rfl (Nat.le_refl _) (Nat.le_refl _) ⟨rfl, dzX4_under_18⟩
set_option maxHeartbeats 4000000 in
set_option maxRecDepth 100000 in
theorem c_downFrom (K : zK) (o b a : Nat) (bl ab : Nat → Nat) (n : Nat) (ver : Int32) {i : Nat} (hi : i < 14) : zD K yX4_downFrom cX4_downFrom 2 (some .int) (zq 0 0 0 0) [.ref o, .int (nI i)] (wO K o b a bl ab n ver) (some (.int (nI (bl i ||| 2 ^ i)))) (wO K o b a bl ab n ver) := by
  refine zo (by decide) (Nat.le_of_ble_eq_true rfl) fun x C R _ => ?_
  refine zv_go C okX4_downFrom [] 20 ?_
  refine ⟨rfl, ⟨rfl, rfl⟩, vp_in_nI hi (by decide), ?_⟩
  exact zr R () [0, 1, 2] (some (.int _)) _ (by rw [nI_clamp (by omega), nb_1s i (by omega), nb_or]) rfl trivial rfl rfl (Nat.le_refl _) (Nat.le_refl _) dzX4_downFrom_10
set_option maxHeartbeats 4000000 in
set_option maxRecDepth 100000 in
theorem c_upFrom (K : zK) (o b a : Nat) (bl ab : Nat → Nat) (n : Nat) (ver : Int32) {i : Nat} (hi : i < 14) : zD K yX4_upFrom cX4_upFrom 2 (some .int) (zq 0 0 0 0) [.ref o, .int (nI i)] (wO K o b a bl ab n ver) (some (.int (nI (ab i ||| 2 ^ i)))) (wO K o b a bl ab n ver) := by
  refine zo (by decide) (Nat.le_of_ble_eq_true rfl) fun x C R _ => ?_
  refine zv_go C okX4_upFrom [] 20 ?_
  refine ⟨rfl, ⟨rfl, rfl⟩, vp_in_nI hi (by decide), ?_⟩
  exact zr R () [0, 1, 2] (some (.int _)) _ (by rw [nI_clamp (by omega), nb_1s i (by omega), nb_or]) rfl trivial rfl rfl (Nat.le_refl _) (Nat.le_refl _) dzX4_upFrom_10
set_option maxHeartbeats 4000000 in
set_option maxRecDepth 100000 in
theorem c_changeBy (K : zK) (o b a : Nat) (bl ab : Nat → Nat) (n : Nat) (ver c : Int32) : zD K yX4_changeBy cX4_changeBy 2 none (zq 0 0 0 0) [.ref o, .int c] (wO K o b a bl ab n ver) none (wO K o b a bl ab n (if c = 0 then ver else ver + 1)) := by
  refine zo (by decide) (Nat.le_of_ble_eq_true rfl) fun x C R _ => ?_
  refine zv_go C okX4_changeBy [] 20 ?_
  refine ⟨fun h => ?_, fun h => ⟨rfl, rfl, ?_⟩⟩
  · exact zr R () [0, 1, 2] none _ rfl (by rw [if_pos h]) trivial rfl rfl (Nat.le_refl _) (Nat.le_refl _) dzX4_changeBy_14
  · exact zr R () [0, 1, 2] none _ rfl (by rw [if_neg h]) trivial rfl rfl (Nat.le_refl _) (Nat.le_refl _) dzX4_changeBy_14
set_option maxHeartbeats 4000000 in
set_option maxRecDepth 100000 in
theorem c_bitCount (K : zK) {s : Nat} (hs : s < 2 ^ 14) : zD K yJ6_bitCount_0f7a4 cJ6_bitCount_0f7a4 1 (some .int) (zq 0 0 0 0) [.int (nI s)] [] (some (.int (nI (npc 14 s)))) [] := by
  refine zo (by decide) (Nat.le_of_ble_eq_true rfl) fun x C R _ => ?_
  refine zv_go C okJ6_bitCount_0f7a4 [] 60 ?_
  exact zr R () [] (some (.int _)) _ (by rw [← jbc_ok hs]; rfl) rfl trivial rfl rfl (Nat.le_refl _) (Nat.le_refl _) dzJ6_bitCount_0f7a4_52
end
section
/-! ORDER: canFollow, pairs, coversOf, startWith -/
set_option maxHeartbeats 4000000 in
set_option maxRecDepth 100000 in
theorem c_canFollow (K : zK) (o b a : Nat) (bl ab : Nat → Nat) (n : Nat) (ver : Int32) {s v : Nat} (hv : v < 14) (hb : bl v < 2 ^ 14) : zD K yX4_canFollow cX4_canFollow 3 (some .boolean) (zq 1 0 0 21) [.ref o, .int (nI s), .int (nI v)] (wO K o b a bl ab n ver) (some (.int (bI (decide (ndf (bl v ||| 2 ^ v) s = 2 ^ v))))) (wO K o b a bl ab n ver) := by
  have h1 : bl v ||| 2 ^ v < 2 ^ 14 := nb_lt_or hb (nb_lt_pow hv)
  have h2 : ndf (bl v ||| 2 ^ v) s < 2 ^ 32 := Nat.lt_of_le_of_lt (ndf_le _ _) (Nat.lt_trans h1 (by decide))
  have h3 : 2 ^ v < 2 ^ 32 := nb_lt_pow (by omega)
  refine zo (by decide) (Nat.le_of_ble_eq_true rfl) fun x C R _ => ?_
  refine zv_go C okX4_canFollow [] 2 ?_
  refine zv_callV C (c_downFrom K o b a bl ab n ver hv) (zw_V inX4_downFrom kX4_25 ⟨by decide, by decide⟩) [0, 1, 2] 0 rfl rfl rfl rfl (fun _ => Nat.le_refl _) rfl rfl (by decide) dzX4_canFollow_2 (by decide) (by decide) rfl (fun _ _ => ?_)
  refine zv_to C rfl rfl (ws' := wO K o b a bl ab n ver) rfl ?_
  refine zv_go C okX4_canFollow [] 20 ?_
  refine ⟨fun h => ?_, fun h => ?_⟩
  · rw [nb_not, nb_1s v (by omega), nb_inj h2 h3] at h
    exact zr R () [0, 1, 2] (some (.int 0)) _ (by rw [decide_eq_false h]; rfl) rfl trivial rfl rfl (Nat.le_refl _) (Nat.le_refl _) ⟨rfl, dzX4_canFollow_20⟩
  · rw [nb_not, nb_1s v (by omega), nb_inj h2 h3] at h
    exact zr R () [0, 1, 2] (some (.int 1)) _ (by rw [decide_eq_true h]; rfl) rfl trivial rfl rfl (Nat.le_refl _) (Nat.le_refl _) ⟨rfl, dzX4_canFollow_20⟩
def osum (ab : Nat → Nat) : Nat → Nat
  | 0 => 0
  | k + 1 => osum ab k + npc 14 (ab k)
set_option maxHeartbeats 4000000 in
set_option maxRecDepth 100000 in
theorem c_pairs (K : zK) (o b a : Nat) (bl ab : Nat → Nat) (n : Nat) (ver : Int32) (hn : n ≤ 14) (ha : ∀ j, ab j < 2 ^ 14) : zD K yX4_pairs cX4_pairs 3 (some .int) (zq 1 0 0 20) [.ref o] (wO K o b a bl ab n ver) (some (.int (nI (osum ab n)))) (wO K o b a bl ab n ver) := by
  refine zo (by decide) (Nat.le_of_ble_eq_true rfl) fun x C R _ => ?_
  have loop : ∀ m k, k + m = n → zv_V x (gz K (zq 1 0 0 20) 3 cX4_pairs yX4_pairs.cls) 4 [(0, .ref o), (1, .int (nI (osum ab k))), (2, .int (nI k))] [] (wO K o b a bl ab n ver) 0 0 := by
    intro m
    induction m with
    | zero =>
      intro k hk
      have e : k = n := by omega
      subst e
      refine zv_go C okX4_pairs [] 20 ?_
      refine ⟨rfl, fun _ => ?_, fun h => absurd (nI_le (Nat.le_refl _) (by omega)) h⟩
      exact zr R () [0, 1, 2] (some (.int _)) _ rfl rfl trivial rfl rfl (Nat.le_refl _) (Nat.le_refl _) dzX4_pairs_31
    | succ m ih =>
      intro k hk
      refine zv_go C okX4_pairs [] 20 ?_
      refine ⟨rfl, fun h => absurd h (nI_ge (by omega) (by omega)), fun _ => ⟨rfl, ⟨rfl, rfl⟩, vp_in_nI (by omega) (by decide), ?_⟩⟩
      refine zv_callS C (c_bitCount K (ha k)) (zw_S inJ6_bitCount_0f7a4 kX4_32 ⟨by decide, by decide⟩) [] rfl rfl (fun _ => Nat.le_refl _) (rest := [.int (nI (osum ab k))]) (by rw [nI_clamp (by omega)]; rfl) rfl (Nat.le_of_ble_eq_true rfl) dzX4_pairs_19 (by decide) (by decide) rfl (fun _ _ => ?_)
      refine zv_to C rfl rfl (ws' := wO K o b a bl ab n ver) rfl ?_
      refine zv_go C okX4_pairs [4] 20 ?_
      refine zv_to C (lv' := [(0, .ref o), (1, .int (nI (osum ab (k + 1)))), (2, .int (nI (k + 1)))]) ?_ rfl rfl (ih (k + 1) (by omega))
      show [(0, Value.ref o), (1, .int (nI (osum ab k) + nI (npc 14 (ab k)))), (2, .int (nI k + 1))] = _
      rw [nI_add, nI_1]
      rfl
  refine zv_go C okX4_pairs [4] 20 ?_
  exact loop n 0 (by omega)
def ocov (ab : Nat → Nat) (v : Nat) : Nat → Nat
  | 0 => ab v
  | k + 1 => if (ab v).testBit k = true then ndf (ocov ab v k) (ab k) else ocov ab v k
set_option maxHeartbeats 4000000 in
set_option maxRecDepth 100000 in
theorem c_coversOf (K : zK) (o b a : Nat) (bl ab : Nat → Nat) (n : Nat) (ver : Int32) {v : Nat} (hv : v < 14) (hn : n ≤ 14) (ha : ∀ j, ab j < 2 ^ 14) : zD K yX4_coversOf cX4_coversOf 4 (some .int) (zq 1 0 0 22) [.ref o, .int (nI v)] (wO K o b a bl ab n ver) (some (.int (nI (ocov ab v n)))) (wO K o b a bl ab n ver) := by
  refine zo (by decide) (Nat.le_of_ble_eq_true rfl) fun x C R _ => ?_
  have loop : ∀ m k, k + m = n → zv_V x (gz K (zq 1 0 0 22) 4 cX4_coversOf yX4_coversOf.cls) 9 [(0, .ref o), (1, .int (nI v)), (2, .int (nI (ocov ab v k))), (3, .int (nI k))] [] (wO K o b a bl ab n ver) 0 0 := by
    intro m
    induction m with
    | zero =>
      intro k hk
      have e : k = n := by omega
      subst e
      refine zv_go C okX4_coversOf [] 20 ?_
      refine ⟨rfl, fun _ => ?_, fun h => absurd (nI_le (Nat.le_refl _) (by omega)) h⟩
      exact zr R () [0, 1, 2] (some (.int _)) _ rfl rfl trivial rfl rfl (Nat.le_refl _) (Nat.le_refl _) dzX4_coversOf_44
    | succ m ih =>
      intro k hk
      refine zv_go C okX4_coversOf [] 20 ?_
      refine ⟨rfl, fun h => absurd h (nI_ge (by omega) (by omega)), fun _ => ?_⟩
      refine zv_callV C (c_under K o b a bl ab n ver (i := v) (j := k) hv (by omega) (Nat.lt_trans (ha v) (by decide))) (zw_V inX4_under kX4_41 ⟨by decide, by decide⟩) [0, 1, 2] 0 rfl rfl rfl rfl (fun _ => Nat.le_refl _) rfl rfl (by decide) dzX4_coversOf_20 (by decide) (by decide) rfl (fun _ _ => ?_)
      refine zv_to C rfl rfl (ws' := wO K o b a bl ab n ver) rfl ?_
      refine zv_go C okX4_coversOf [9] 20 ?_
      refine ⟨fun h => ?_, fun h => ⟨rfl, ⟨rfl, rfl⟩, vp_in_nI (by omega) (by decide), ?_⟩⟩
      · rw [bI_0] at h
        refine zv_to C (lv' := [(0, .ref o), (1, .int (nI v)), (2, .int (nI (ocov ab v (k + 1)))), (3, .int (nI (k + 1)))]) ?_ rfl rfl (ih (k + 1) (by omega))
        show [(0, Value.ref o), (1, .int (nI v)), (2, .int (nI (ocov ab v k))), (3, .int (nI k + 1))] = _
        rw [nI_1]
        simp only [ocov, h]
        rfl
      · rw [bI_1] at h
        refine zv_to C (lv' := [(0, .ref o), (1, .int (nI v)), (2, .int (nI (ocov ab v (k + 1)))), (3, .int (nI (k + 1)))]) ?_ rfl rfl (ih (k + 1) (by omega))
        show [(0, Value.ref o), (1, .int (nI v)), (2, .int (nI (ocov ab v k) &&& (nI (ab (nI k).toNatClampNeg) ^^^ (-1)))), (3, .int (nI k + 1))] = _
        rw [nI_1, nI_clamp (by omega), nb_not]
        simp only [ocov, h]
        rfl
  refine zv_go C okX4_coversOf [9] 20 ?_
  refine ⟨rfl, ⟨rfl, rfl⟩, vp_in_nI hv (by decide), ?_⟩
  refine zv_to C (lv' := [(0, .ref o), (1, .int (nI v)), (2, .int (nI (ocov ab v 0))), (3, .int (nI 0))]) ?_ rfl rfl (loop n 0 (by omega))
  show [(0, Value.ref o), (1, .int (nI v)), (2, .int (nI (ab (nI v).toNatClampNeg))), (3, .int 0)] = _
  rw [nI_clamp (by omega)]
  rfl
set_option maxHeartbeats 4000000 in
set_option maxRecDepth 100000 in
theorem c_startWith (K : zK) (o b a : Nat) (bl ab : Nat → Nat) (n t : Nat) (ver : Int32) : zD K yX4_startWith cX4_startWith 3 none (zq 0 0 0 0) [.ref o, .int (nI t)] (wO K o b a bl ab n ver) none (wO K o b a (fun _ => 0) (fun _ => 0) t (ver + 1)) := by
  refine zo (by decide) (Nat.le_of_ble_eq_true rfl) fun x C R _ => ?_
  have loop : ∀ m k (f g : Nat → Int32), k + m = 14 → (∀ j, j < k → f j = 0) → (∀ j, j < k → g j = 0) → zv_V x (gz K (zq 0 0 0 0) 3 cX4_startWith yX4_startWith.cls) 7 [(0, .ref o), (1, .int (nI t)), (2, .int (nI k))] [] [(o, .inr (4, [.ref b, .ref a, .int (nI t), .int ver])), (b, .inl (cI K, 14, .inl f)), (a, .inl (cI K, 14, .inl g))] 0 0 := by
    intro m
    induction m with
    | zero =>
      intro k f g hk hf hg
      have e : k = 14 := by omega
      subst e
      refine zv_exI C 1 (fun _ => nI 0) rfl (fun j hj => by rw [hf j hj]; rfl) ?_
      refine zv_exI C 2 (fun _ => nI 0) rfl (fun j hj => by rw [hg j hj]; rfl) ?_
      refine zv_go C okX4_startWith [] 20 ?_
      refine ⟨fun _ => ?_, fun h => absurd (by decide) h⟩
      refine ⟨rfl, rfl, ?_⟩
      exact zr R () [0, 1, 2] none _ rfl rfl trivial rfl rfl (Nat.le_refl _) (Nat.le_refl _) dzX4_startWith_43
    | succ m ih =>
      intro k f g hk hf hg
      refine zv_go C okX4_startWith [7] 30 ?_
      refine ⟨fun h => absurd h (nI_ge (b := 14) (by omega) (by omega)), fun _ => ⟨rfl, ⟨rfl, rfl⟩, vp_in_nI (by omega) (by decide), rfl, ⟨rfl, rfl⟩, vp_in_nI (by omega) (by decide), ?_⟩⟩
      refine zv_to C (lv' := [(0, .ref o), (1, .int (nI t)), (2, .int (nI (k + 1)))]) (by rw [← nI_1]; rfl) rfl rfl (ih (k + 1) _ _ (by omega) ?_ ?_)
      · intro j hj
        rw [nI_clamp (by omega)]
        by_cases e : j = k
        · rw [e, pk_us]
        · rw [pk_un e]; exact hf j (by omega)
      · intro j hj
        rw [nI_clamp (by omega)]
        by_cases e : j = k
        · rw [e, pk_us]
        · rw [pk_un e]; exact hg j (by omega)
  refine zv_go C okX4_startWith [7] 20 ?_
  refine ⟨rfl, ?_⟩
  exact loop 14 0 _ _ rfl (fun j hj => absurd hj (Nat.not_lt_zero _)) (fun j hj => absurd hj (Nat.not_lt_zero _))
end
section
/-! ORDER: tie, untie -/
/-- what tie makes of a row: the places of the set 'at' below k get 'up' too -/
def orow (at' up : Nat) (r : Nat → Nat) (k : Nat) : Nat → Nat := fun j => if j < k ∧ at'.testBit j = true then r j ||| up else r j
def ocame (lo up : Nat) (ab : Nat → Nat) : Nat → Nat
  | 0 => 0
  | k + 1 => ocame lo up ab k + (if lo.testBit k = true then npc 14 (ndf up (ab k)) else 0)
theorem orow_ge {at' up : Nat} {r : Nat → Nat} {k j : Nat} (h : k ≤ j) : orow at' up r k j = r j := by
  unfold orow
  rw [if_neg (by omega)]
theorem orow_in {at' up : Nat} {r : Nat → Nat} {k : Nat} (h : at'.testBit k = true) : ∀ j, upd (fun j => nI (orow at' up r k j)) k (nI (r k) ||| nI up) j = nI (orow at' up r (k + 1) j) := by
  intro j
  by_cases e : j = k
  · rw [e, pk_us, nb_or]
    unfold orow
    rw [if_pos ⟨by omega, h⟩]
  · rw [pk_un e]
    unfold orow
    by_cases h2 : j < k ∧ at'.testBit j = true
    · rw [if_pos h2, if_pos ⟨by omega, h2.2⟩]
    · rw [if_neg h2, if_neg (fun q => h2 ⟨by omega, q.2⟩)]
theorem orow_out {at' up : Nat} {r : Nat → Nat} {k : Nat} (h : at'.testBit k = false) : ∀ j, orow at' up r k j = orow at' up r (k + 1) j := by
  intro j
  unfold orow
  by_cases h2 : j < k ∧ at'.testBit j = true
  · rw [if_pos h2, if_pos ⟨by omega, h2.2⟩]
  · rw [if_neg h2, if_neg (fun q => h2 ⟨by
      have : j ≠ k := fun e => by rw [e, h] at q; exact absurd q.2 (by decide)
      omega, q.2⟩)]
set_option maxHeartbeats 4000000 in
set_option maxRecDepth 100000 in
theorem c_tie (K : zK) (o b a : Nat) (bl ab : Nat → Nat) (n : Nat) (ver : Int32) {i j : Nat} (hi : i < 14) (hj : j < 14) (hn : n ≤ 14) (hb : ∀ v, bl v < 2 ^ 14) (ha : ∀ v, ab v < 2 ^ 14) (lo up : Nat) (elo : lo = bl i ||| 2 ^ i) (eup : up = ab j ||| 2 ^ j) :
    zD K yX4_tie cX4_tie 7 (some .int) (zq 1 0 0 21) [.ref o, .int (nI i), .int (nI j)] (wO K o b a bl ab n ver) (some (.int (nI (ocame lo up ab n)))) (wO K o b a (orow up lo bl n) (orow lo up ab n) n (if nI (ocame lo up ab n) = 0 then ver else ver + 1)) := by
  have hlo : lo < 2 ^ 14 := by rw [elo]; exact nb_lt_or (hb i) (nb_lt_pow hi)
  have hup : up < 2 ^ 14 := by rw [eup]; exact nb_lt_or (ha j) (nb_lt_pow hj)
  refine zo (by decide) (Nat.le_of_ble_eq_true rfl) fun x C R _ => ?_
  have loop : ∀ m k, k + m = n → zv_V x (gz K (zq 1 0 0 21) 7 cX4_tie yX4_tie.cls) 19 [(0, .ref o), (1, .int (nI i)), (2, .int (nI j)), (3, .int (nI lo)), (4, .int (nI up)), (5, .int (nI (ocame lo up ab k))), (6, .int (nI k))] [] (wO K o b a (orow up lo bl k) (orow lo up ab k) n ver) 0 0 := by
    intro m
    induction m with
    | zero =>
      intro k hk
      have e : k = n := by omega
      subst e
      refine zv_go C okX4_tie [] 20 ?_
      refine ⟨rfl, fun _ => ?_, fun h => absurd (nI_le (Nat.le_refl _) (by omega)) h⟩
      refine zv_callV C (c_changeBy K o b a _ _ k ver _) (zw_V inX4_changeBy kX4_37 ⟨by decide, by decide⟩) [0, 1, 2] 0 rfl rfl rfl rfl (fun _ => Nat.le_refl _) rfl rfl (by decide) dzX4_tie_99 (by decide) (by decide) rfl (fun _ _ => ?_)
      refine zv_go C okX4_tie [] 20 ?_
      exact zr R () [0, 1, 2] (some (.int _)) _ rfl rfl trivial rfl rfl (Nat.le_refl _) (Nat.le_refl _) dzX4_tie_104
    | succ m ih =>
      intro k hk
      -- the second half: the place in 'below'
      have half : ∀ cm : Nat, cm = ocame lo up ab (k + 1) → zv_V x (gz K (zq 1 0 0 21) 7 cX4_tie yX4_tie.cls) 69 [(0, .ref o), (1, .int (nI i)), (2, .int (nI j)), (3, .int (nI lo)), (4, .int (nI up)), (5, .int (nI cm)), (6, .int (nI k))] [] (wO K o b a (orow up lo bl k) (orow lo up ab (k + 1)) n ver) 0 0 := by
        intro cm hcm
        subst hcm
        refine zv_go C okX4_tie [19] 30 ?_
        refine ⟨fun h => ?_, fun h => ⟨rfl, ⟨rfl, rfl⟩, vp_in_nI (by omega) (by decide), ⟨rfl, rfl⟩, vp_in_nI (by omega) (by decide), ?_⟩⟩
        · rw [nb_t0 (Nat.lt_trans hup (by decide)) (by omega)] at h
          refine zv_to C (lv' := [(0, .ref o), (1, .int (nI i)), (2, .int (nI j)), (3, .int (nI lo)), (4, .int (nI up)), (5, .int (nI (ocame lo up ab (k + 1)))), (6, .int (nI (k + 1)))]) (by rw [← nI_1]; rfl) rfl (ws' := wO K o b a (orow up lo bl (k + 1)) (orow lo up ab (k + 1)) n ver) ?_ (ih (k + 1) (by omega))
          have e : orow up lo bl k = orow up lo bl (k + 1) := funext (orow_out h)
          rw [e]
        · rw [nb_t1 (Nat.lt_trans hup (by decide)) (by omega)] at h
          refine zv_to C (lv' := [(0, .ref o), (1, .int (nI i)), (2, .int (nI j)), (3, .int (nI lo)), (4, .int (nI up)), (5, .int (nI (ocame lo up ab (k + 1)))), (6, .int (nI (k + 1)))]) (by rw [← nI_1]; rfl) rfl (ws' := wO K o b a (orow up lo bl (k + 1)) (orow lo up ab (k + 1)) n ver) ?_ (ih (k + 1) (by omega))
          have e : upd (fun j => nI (orow up lo bl k j)) (nI k).toNatClampNeg (nI (orow up lo bl k (nI k).toNatClampNeg) ||| nI lo) = fun j => nI (orow up lo bl (k + 1) j) := by
            rw [nI_clamp (by omega), orow_ge (Nat.le_refl _)]
            exact funext (orow_in h)
          show [(o, _), (b, Sum.inl (cI K, 14, Sum.inl (upd (fun j => nI (orow up lo bl k j)) (nI k).toNatClampNeg (nI (orow up lo bl k (nI k).toNatClampNeg) ||| nI lo)))), _] = _
          rw [e]
      refine zv_go C okX4_tie [69] 20 ?_
      refine ⟨rfl, fun h => absurd h (nI_ge (by omega) (by omega)), fun _ => ⟨fun h => ?_, fun h => ⟨rfl, ⟨rfl, rfl⟩, vp_in_nI (by omega) (by decide), ?_⟩⟩⟩
      · rw [nb_t0 (Nat.lt_trans hlo (by decide)) (by omega)] at h
        have e : orow lo up ab k = orow lo up ab (k + 1) := funext (orow_out h)
        refine zv_to C rfl rfl (ws' := wO K o b a (orow up lo bl k) (orow lo up ab (k + 1)) n ver) (by rw [e]) (half _ ?_)
        simp [ocame, h]
      · rw [nb_t1 (Nat.lt_trans hlo (by decide)) (by omega)] at h
        have hlt : ndf up (ab k) < 2 ^ 14 := Nat.lt_of_le_of_lt (ndf_le _ _) hup
        refine zv_callS C (c_bitCount K hlt) (zw_S inJ6_bitCount_0f7a4 kX4_32 ⟨by decide, by decide⟩) [] rfl rfl (fun _ => Nat.le_refl _) (rest := [.int (nI (ocame lo up ab k))]) ?_ rfl (Nat.le_of_ble_eq_true rfl) dzX4_tie_51 (by decide) (by decide) rfl (fun _ _ => ?_)
        · show [Value.int (nI up &&& (nI (orow lo up ab k (nI k).toNatClampNeg) ^^^ (-1))), _] = _
          rw [nI_clamp (by omega), orow_ge (Nat.le_refl _), nb_not]
          rfl
        refine zv_to C rfl rfl (ws' := wO K o b a (orow up lo bl k) (orow lo up ab k) n ver) rfl ?_
        refine zv_go C okX4_tie [69] 20 ?_
        refine ⟨rfl, ⟨rfl, rfl⟩, vp_in_nI (by omega) (by decide), ⟨rfl, rfl⟩, vp_in_nI (by omega) (by decide), ?_⟩
        have e : upd (fun j => nI (orow lo up ab k j)) (nI k).toNatClampNeg (nI (orow lo up ab k (nI k).toNatClampNeg) ||| nI up) = fun j => nI (orow lo up ab (k + 1) j) := by
          rw [nI_clamp (by omega), orow_ge (Nat.le_refl _)]
          exact funext (orow_in h)
        refine zv_to C (lv' := [(0, .ref o), (1, .int (nI i)), (2, .int (nI j)), (3, .int (nI lo)), (4, .int (nI up)), (5, .int (nI (ocame lo up ab (k + 1)))), (6, .int (nI k))]) ?_ rfl (ws' := wO K o b a (orow up lo bl k) (orow lo up ab (k + 1)) n ver) ?_ (half _ rfl)
        · show [(0, Value.ref o), (1, .int (nI i)), (2, .int (nI j)), (3, .int (nI lo)), (4, .int (nI up)), (5, .int (nI (ocame lo up ab k) + nI (npc 14 (ndf up (ab k))))), (6, .int (nI k))] = _
          rw [nI_add]
          simp [ocame, h]
        · show [(o, _), _, (a, Sum.inl (cI K, 14, Sum.inl (upd (fun j => nI (orow lo up ab k j)) (nI k).toNatClampNeg (nI (orow lo up ab k (nI k).toNatClampNeg) ||| nI up))))] = _
          rw [e]
  refine zv_go C okX4_tie [] 2 ?_
  refine zv_callV C (c_downFrom K o b a bl ab n ver hi) (zw_V inX4_downFrom kX4_25 ⟨by decide, by decide⟩) [0, 1, 2] 0 rfl rfl rfl rfl (fun _ => Nat.le_refl _) rfl rfl (by decide) dzX4_tie_2 (by decide) (by decide) rfl (fun _ _ => ?_)
  refine zv_to C rfl rfl (ws' := wO K o b a bl ab n ver) rfl ?_
  refine zv_go C okX4_tie [] 3 ?_
  refine zv_callV C (c_upFrom K o b a bl ab n ver hj) (zw_V inX4_upFrom kX4_29 ⟨by decide, by decide⟩) [0, 1, 2] 0 rfl rfl rfl rfl (fun _ => Nat.le_refl _) rfl rfl (by decide) dzX4_tie_8 (by decide) (by decide) rfl (fun _ _ => ?_)
  refine zv_to C rfl rfl (ws' := wO K o b a bl ab n ver) rfl ?_
  refine zv_go C okX4_tie [19] 20 ?_
  refine zv_to C (lv' := [(0, .ref o), (1, .int (nI i)), (2, .int (nI j)), (3, .int (nI lo)), (4, .int (nI up)), (5, .int (nI (ocame lo up ab 0))), (6, .int (nI 0))]) (by rw [elo, eup]; rfl) rfl (ws' := wO K o b a (orow up lo bl 0) (orow lo up ab 0) n ver) ?_ (loop n 0 (by omega))
  have e1 : orow up lo bl 0 = bl := funext fun _ => orow_ge (Nat.zero_le _)
  have e2 : orow lo up ab 0 = ab := funext fun _ => orow_ge (Nat.zero_le _)
  rw [e1, e2]
/-- what untie makes of a row: thing v goes from the places below k -/
def ocut (v : Nat) (r : Nat → Nat) (k : Nat) : Nat → Nat := fun j => if j < k then ndf (r j) (2 ^ v) else r j
theorem ocut_in {v : Nat} {r : Nat → Nat} {k : Nat} : ∀ j, upd (fun j => nI (ocut v r k j)) k (nI (ndf (r k) (2 ^ v))) j = nI (ocut v r (k + 1) j) := by
  intro j
  by_cases e : j = k
  · rw [e, pk_us]
    unfold ocut
    rw [if_pos (by omega)]
  · rw [pk_un e]
    unfold ocut
    by_cases h2 : j < k
    · rw [if_pos h2, if_pos (by omega)]
    · rw [if_neg h2, if_neg (by omega)]
set_option maxHeartbeats 4000000 in
set_option maxRecDepth 100000 in
theorem c_untie (K : zK) (o b a : Nat) (bl ab : Nat → Nat) (n : Nat) (ver : Int32) {v : Nat} (hv : v < 14) (hn : n ≤ 14) (hb : ∀ v, bl v < 2 ^ 14) (ha : ∀ v, ab v < 2 ^ 14) :
    zD K yX4_untie cX4_untie 4 (some .int) (zq 1 0 0 21) [.ref o, .int (nI v)] (wO K o b a bl ab n ver) (some (.int (nI (npc 14 (bl v) + npc 14 (ab v))))) (wO K o b a (va_up (ocut v bl n) v 0) (va_up (ocut v ab n) v 0) n (if nI (npc 14 (bl v) + npc 14 (ab v)) = 0 then ver else ver + 1)) := by
  refine zo (by decide) (Nat.le_of_ble_eq_true rfl) fun x C R _ => ?_
  have up0 : ∀ (r : Nat → Nat), upd (fun j => nI (r j)) (nI v).toNatClampNeg 0 = fun j => nI (va_up r v 0 j) := by
    intro r
    rw [nI_clamp (by omega)]
    funext j
    unfold va_up
    by_cases e : j = v
    · rw [e, pk_us, if_pos rfl]; rfl
    · rw [pk_un e, if_neg e]
  have loop : ∀ m k, k + m = n → zv_V x (gz K (zq 1 0 0 21) 4 cX4_untie yX4_untie.cls) 22 [(0, .ref o), (1, .int (nI v)), (2, .int (nI (npc 14 (bl v) + npc 14 (ab v)))), (3, .int (nI k))] [] (wO K o b a (ocut v bl k) (ocut v ab k) n ver) 0 0 := by
    intro m
    induction m with
    | zero =>
      intro k hk
      have e : k = n := by omega
      subst e
      refine zv_go C okX4_untie [] 30 ?_
      refine ⟨rfl, fun _ => ⟨rfl, ⟨rfl, rfl⟩, vp_in_nI hv (by decide), rfl, ⟨rfl, rfl⟩, vp_in_nI hv (by decide), ?_⟩, fun h => absurd (nI_le (Nat.le_refl _) (by omega)) h⟩
      refine zv_to C rfl rfl (ws' := wO K o b a (va_up (ocut v bl k) v 0) (va_up (ocut v ab k) v 0) k ver) ?_ ?_
      · show [(o, _), (b, Sum.inl (cI K, 14, Sum.inl (upd (fun j => nI (ocut v bl k j)) (nI v).toNatClampNeg 0))), (a, Sum.inl (cI K, 14, Sum.inl (upd (fun j => nI (ocut v ab k j)) (nI v).toNatClampNeg 0)))] = _
        rw [up0, up0]
      refine zv_callV C (c_changeBy K o b a _ _ k ver _) (zw_V inX4_changeBy kX4_37 ⟨by decide, by decide⟩) [0, 1, 2] 0 rfl rfl rfl rfl (fun _ => Nat.le_refl _) rfl rfl (by decide) dzX4_untie_80 (by decide) (by decide) rfl (fun _ _ => ?_)
      refine zv_go C okX4_untie [] 20 ?_
      exact zr R () [0, 1, 2] (some (.int _)) _ rfl rfl trivial rfl rfl (Nat.le_refl _) (Nat.le_refl _) dzX4_untie_84
    | succ m ih =>
      intro k hk
      have stp : ∀ r : Nat → Nat, upd (fun j => nI (ocut v r k j)) (nI k).toNatClampNeg (nI (ocut v r k (nI k).toNatClampNeg) &&& ((1 : Int32) <<< (nI v &&& 31) ^^^ (-1))) = fun j => nI (ocut v r (k + 1) j) := by
        intro r
        have e : ocut v r k k = r k := by unfold ocut; rw [if_neg (by omega)]
        rw [nI_clamp (by omega), nb_1s v (by omega), nb_not, e]
        exact funext ocut_in
      refine zv_go C okX4_untie [22] 50 ?_
      refine ⟨rfl, fun h => absurd h (nI_ge (by omega) (by omega)), fun _ => ⟨rfl, ⟨rfl, rfl⟩, vp_in_nI (by omega) (by decide), ⟨rfl, rfl⟩, vp_in_nI (by omega) (by decide), rfl, ⟨rfl, rfl⟩, vp_in_nI (by omega) (by decide), ⟨rfl, rfl⟩, vp_in_nI (by omega) (by decide), ?_⟩⟩
      refine zv_to C (lv' := [(0, .ref o), (1, .int (nI v)), (2, .int (nI (npc 14 (bl v) + npc 14 (ab v)))), (3, .int (nI (k + 1)))]) (by rw [← nI_1]; rfl) rfl (ws' := wO K o b a (ocut v bl (k + 1)) (ocut v ab (k + 1)) n ver) ?_ (ih (k + 1) (by omega))
      show [(o, _), (b, Sum.inl (cI K, 14, Sum.inl (upd (fun j => nI (ocut v bl k j)) (nI k).toNatClampNeg (nI (ocut v bl k (nI k).toNatClampNeg) &&& ((1 : Int32) <<< (nI v &&& 31) ^^^ (-1)))))), (a, Sum.inl (cI K, 14, Sum.inl (upd (fun j => nI (ocut v ab k j)) (nI k).toNatClampNeg (nI (ocut v ab k (nI k).toNatClampNeg) &&& ((1 : Int32) <<< (nI v &&& 31) ^^^ (-1))))))] = _
      rw [stp, stp]
  refine zv_go C okX4_untie [] 20 ?_
  refine ⟨rfl, ⟨rfl, rfl⟩, vp_in_nI hv (by decide), ?_⟩
  refine zv_callS C (c_bitCount K (hb v)) (zw_S inJ6_bitCount_0f7a4 kX4_32 ⟨by decide, by decide⟩) [] rfl rfl (fun _ => Nat.le_refl _) (rest := []) (by rw [nI_clamp (by omega)]; rfl) rfl (Nat.le_of_ble_eq_true rfl) dzX4_untie_6 (by decide) (by decide) rfl (fun _ _ => ?_)
  refine zv_to C rfl rfl (ws' := wO K o b a bl ab n ver) rfl ?_
  refine zv_go C okX4_untie [] 20 ?_
  refine ⟨rfl, ⟨rfl, rfl⟩, vp_in_nI hv (by decide), ?_⟩
  refine zv_callS C (c_bitCount K (ha v)) (zw_S inJ6_bitCount_0f7a4 kX4_32 ⟨by decide, by decide⟩) [] rfl rfl (fun _ => Nat.le_refl _) (rest := [.int (nI (npc 14 (bl v)))]) (by rw [nI_clamp (by omega)]; rfl) rfl (Nat.le_of_ble_eq_true rfl) dzX4_untie_15 (by decide) (by decide) rfl (fun _ _ => ?_)
  refine zv_to C rfl rfl (ws' := wO K o b a bl ab n ver) rfl ?_
  refine zv_go C okX4_untie [22] 20 ?_
  refine zv_to C (lv' := [(0, .ref o), (1, .int (nI v)), (2, .int (nI (npc 14 (bl v) + npc 14 (ab v)))), (3, .int (nI 0))]) (by rw [← nI_add]; rfl) rfl (ws' := wO K o b a (ocut v bl 0) (ocut v ab 0) n ver) ?_ (loop n 0 (by omega))
  rfl
end
section
def tbX2_init : List zv_I := [(0, .aload_n 0, 1, (0, 0, 0, 0, 0, 0)), (1, .invokespecial 3, 4, (0, 0, 0, 0, 0, 0)), (4, .aload_n 0, 5, (0, 0, 0, 0, 0, 0)), (5, .bipush 14, 7, (0, 0, 0, 0, 14, 0)), (7, .newarray .int, 9, (0, 0, 0, 0, 0, 0)), (12, .aload_n 0, 13, (0, 0, 0, 0, 0, 0)), (13, .aload_n 1, 14, (0, 0, 0, 0, 0, 0)), (17, .return_, 18, (0, 0, 0, 0, 0, 0))]
theorem okX2_init : zv_ok 2 cX2_init RX2 zt vwCl tbX2_init = true := by decide +kernel
theorem dzX2_init_1 : decode cX2_init 1 = .ok (.invokespecial 3, 3) := by decide +kernel
theorem dzX2_init_7 : decode cX2_init 7 = .ok (.newarray .int, 2) := by decide +kernel
theorem dzX2_init_9 : decode cX2_init 9 = .ok (.putfield 9, 3) := by decide +kernel
theorem dzX2_init_14 : decode cX2_init 14 = .ok (.putfield 15, 3) := by decide +kernel
theorem dzX2_init_17 : decode cX2_init 17 = .ok (.return_, 1) := by decide +kernel
set_option maxRecDepth 100000 in
theorem inX2_init : Jvm.Cond.code yX2_init cX2_init 2 none ∈ zt := List.mem_filter.mpr ⟨List.mem_append_right _ (List.mem_of_getElem? (i := 65) rfl), rfl⟩
def tbX2_most : List zv_I := [(0, .aload_n 0, 1, (0, 0, 0, 0, 0, 0)), (1, .iload_n 2, 2, (0, 0, 0, 0, 0, 0)), (2, .putfield 19, 5, (0, 2, 2, 0, 0, 0)), (5, .iconst 0, 6, (0, 0, 0, 0, 0, 0)), (6, .istore_n 3, 7, (0, 0, 0, 0, 0, 0)), (7, .iload_n 3, 8, (0, 0, 0, 0, 0, 0)), (8, .bipush 14, 10, (0, 0, 0, 0, 14, 0)), (10, .if_icmp .ge 16, 13, (26, 0, 0, 0, 0, 0)), (13, .aload_n 0, 14, (0, 0, 0, 0, 0, 0)), (14, .getfield 9, 17, (0, 2, 1, 0, 0, 0)), (17, .iload_n 3, 18, (0, 0, 0, 0, 0, 0)), (18, .iconst (-1), 19, (0, 0, 0, 0, (-1), 0)), (19, .iastore, 20, (4, 0, 0, 0, 0, 0)), (20, .iinc 3 1, 23, (0, 0, 0, 0, 1, 0)), (23, .goto (-16), 26, (7, 0, 0, 0, 0, 0)), (26, .iconst 0, 27, (0, 0, 0, 0, 0, 0)), (27, .istore_n 3, 28, (0, 0, 0, 0, 0, 0)), (28, .iconst 0, 29, (0, 0, 0, 0, 0, 0)), (29, .istore 4, 31, (0, 0, 0, 0, 0, 0)), (31, .iload 4, 33, (0, 0, 0, 0, 0, 0)), (33, .aload_n 0, 34, (0, 0, 0, 0, 0, 0)), (34, .getfield 15, 37, (0, 2, 0, 0, 0, 0)), (37, .getfield 23, 40, (1, 4, 2, 0, 0, 0)), (40, .if_icmp .ge 36, 43, (76, 0, 0, 0, 0, 0)), (43, .aload_n 0, 44, (0, 0, 0, 0, 0, 0)), (44, .iconst 0, 45, (0, 0, 0, 0, 0, 0)), (45, .putfield 28, 48, (0, 2, 3, 0, 0, 0)), (48, .iload_n 1, 49, (0, 0, 0, 0, 0, 0)), (49, .iconst 1, 50, (0, 0, 0, 0, 1, 0)), (50, .iload 4, 52, (0, 0, 0, 0, 0, 0)), (52, .ishl, 53, (0, 0, 0, 0, 0, 0)), (53, .iand, 54, (0, 0, 0, 0, 0, 0)), (54, .ifCond .eq 16, 57, (70, 0, 0, 0, 0, 0)), (57, .aload_n 0, 58, (0, 0, 0, 0, 0, 0)), (58, .iload 4, 60, (0, 0, 0, 0, 0, 0)), (60, .iconst 0, 61, (0, 0, 0, 0, 0, 0)), (61, .invokevirtual 31, 64, (0, 0, 0, 0, 0, 0)), (64, .ifCond .eq 6, 67, (70, 0, 0, 0, 0, 0)), (67, .iinc 3 1, 70, (0, 0, 0, 0, 1, 0)), (70, .iinc 4 1, 73, (0, 0, 0, 0, 1, 0)), (73, .goto (-42), 76, (31, 0, 0, 0, 0, 0)), (76, .iload_n 3, 77, (0, 0, 0, 0, 0, 0)), (77, .ireturn, 78, (0, 0, 0, 0, 0, 0))]
theorem okX2_most : zv_ok 5 cX2_most RX2 zt vwCl tbX2_most = true := by decide +kernel
theorem dzX2_most_61 : decode cX2_most 61 = .ok (.invokevirtual 31, 3) := by decide +kernel
theorem dzX2_most_77 : decode cX2_most 77 = .ok (.ireturn, 1) := by decide +kernel
set_option maxRecDepth 100000 in
theorem inX2_most : Jvm.Cond.code yX2_most cX2_most 5 ((some .int)) ∈ zt := List.mem_filter.mpr ⟨List.mem_append_right _ (List.mem_of_getElem? (i := 339) rfl), rfl⟩
def tbX2_widthOf : List zv_I := [(0, .iload_n 1, 1, (0, 0, 0, 0, 0, 0)), (1, .invokestatic 35, 4, (0, 0, 0, 0, 0, 0)), (4, .aload_n 0, 5, (0, 0, 0, 0, 0, 0)), (5, .iload_n 1, 6, (0, 0, 0, 0, 0, 0)), (6, .iload_n 1, 7, (0, 0, 0, 0, 0, 0)), (7, .invokevirtual 41, 10, (0, 0, 0, 0, 0, 0)), (10, .isub, 11, (0, 0, 0, 0, 0, 0)), (11, .ireturn, 12, (0, 0, 0, 0, 0, 0))]
theorem okX2_widthOf : zv_ok 2 cX2_widthOf RX2 zt vwCl tbX2_widthOf = true := by decide +kernel
theorem dzX2_widthOf_1 : decode cX2_widthOf 1 = .ok (.invokestatic 35, 3) := by decide +kernel
theorem dzX2_widthOf_7 : decode cX2_widthOf 7 = .ok (.invokevirtual 41, 3) := by decide +kernel
theorem dzX2_widthOf_11 : decode cX2_widthOf 11 = .ok (.ireturn, 1) := by decide +kernel
set_option maxRecDepth 100000 in
theorem inX2_widthOf : Jvm.Cond.code yX2_widthOf cX2_widthOf 2 ((some .int)) ∈ zt := List.mem_filter.mpr ⟨List.mem_append_right _ (List.mem_of_getElem? (i := 334) rfl), rfl⟩
def tbX2_pairUp : List zv_I := [(0, .iload_n 2, 1, (0, 0, 0, 0, 0, 0)), (1, .bipush 14, 3, (0, 0, 0, 0, 14, 0)), (3, .if_icmp .le 5, 6, (8, 0, 0, 0, 0, 0)), (6, .iconst 0, 7, (0, 0, 0, 0, 0, 0)), (7, .ireturn, 8, (0, 0, 0, 0, 0, 0)), (8, .iconst 0, 9, (0, 0, 0, 0, 0, 0)), (9, .istore_n 3, 10, (0, 0, 0, 0, 0, 0)), (10, .iload_n 3, 11, (0, 0, 0, 0, 0, 0)), (11, .aload_n 0, 12, (0, 0, 0, 0, 0, 0)), (12, .getfield 15, 15, (0, 2, 0, 0, 0, 0)), (15, .getfield 23, 18, (1, 4, 2, 0, 0, 0)), (18, .if_icmp .ge 84, 21, (102, 0, 0, 0, 0, 0)), (21, .aload_n 0, 22, (0, 0, 0, 0, 0, 0)), (22, .getfield 15, 25, (0, 2, 0, 0, 0, 0)), (25, .getfield 45, 28, (1, 4, 1, 0, 0, 0)), (28, .iload_n 1, 29, (0, 0, 0, 0, 0, 0)), (29, .iaload, 30, (3, 0, 0, 0, 0, 0)), (30, .aload_n 0, 31, (0, 0, 0, 0, 0, 0)), (31, .getfield 19, 34, (0, 2, 2, 0, 0, 0)), (34, .iand, 35, (0, 0, 0, 0, 0, 0)), (35, .aload_n 0, 36, (0, 0, 0, 0, 0, 0)), (36, .getfield 28, 39, (0, 2, 3, 0, 0, 0)), (39, .iconst (-1), 40, (0, 0, 0, 0, (-1), 0)), (40, .ixor, 41, (0, 0, 0, 0, 0, 0)), (41, .iand, 42, (0, 0, 0, 0, 0, 0)), (42, .iconst 1, 43, (0, 0, 0, 0, 1, 0)), (43, .iload_n 3, 44, (0, 0, 0, 0, 0, 0)), (44, .ishl, 45, (0, 0, 0, 0, 0, 0)), (45, .iand, 46, (0, 0, 0, 0, 0, 0)), (46, .ifCond .eq 50, 49, (96, 0, 0, 0, 0, 0)), (49, .aload_n 0, 50, (0, 0, 0, 0, 0, 0)), (50, .dup, 51, (0, 0, 0, 0, 0, 0)), (51, .getfield 28, 54, (0, 2, 3, 0, 0, 0)), (54, .iconst 1, 55, (0, 0, 0, 0, 1, 0)), (55, .iload_n 3, 56, (0, 0, 0, 0, 0, 0)), (56, .ishl, 57, (0, 0, 0, 0, 0, 0)), (57, .ior, 58, (0, 0, 0, 0, 0, 0)), (58, .putfield 28, 61, (0, 2, 3, 0, 0, 0)), (61, .aload_n 0, 62, (0, 0, 0, 0, 0, 0)), (62, .getfield 9, 65, (0, 2, 1, 0, 0, 0)), (65, .iload_n 3, 66, (0, 0, 0, 0, 0, 0)), (66, .iaload, 67, (4, 0, 0, 0, 0, 0)), (67, .iconst (-1), 68, (0, 0, 0, 0, (-1), 0)), (68, .if_icmp .eq 19, 71, (87, 0, 0, 0, 0, 0)), (71, .aload_n 0, 72, (0, 0, 0, 0, 0, 0)), (72, .aload_n 0, 73, (0, 0, 0, 0, 0, 0)), (73, .getfield 9, 76, (0, 2, 1, 0, 0, 0)), (76, .iload_n 3, 77, (0, 0, 0, 0, 0, 0)), (77, .iaload, 78, (4, 0, 0, 0, 0, 0)), (78, .iload_n 2, 79, (0, 0, 0, 0, 0, 0)), (79, .iconst 1, 80, (0, 0, 0, 0, 1, 0)), (80, .iadd, 81, (0, 0, 0, 0, 0, 0)), (81, .invokevirtual 31, 84, (0, 0, 0, 0, 0, 0)), (84, .ifCond .eq 12, 87, (96, 0, 0, 0, 0, 0)), (87, .aload_n 0, 88, (0, 0, 0, 0, 0, 0)), (88, .getfield 9, 91, (0, 2, 1, 0, 0, 0)), (91, .iload_n 3, 92, (0, 0, 0, 0, 0, 0)), (92, .iload_n 1, 93, (0, 0, 0, 0, 0, 0)), (93, .iastore, 94, (4, 0, 0, 0, 0, 0)), (94, .iconst 1, 95, (0, 0, 0, 0, 1, 0)), (95, .ireturn, 96, (0, 0, 0, 0, 0, 0)), (96, .iinc 3 1, 99, (0, 0, 0, 0, 1, 0)), (99, .goto (-89), 102, (10, 0, 0, 0, 0, 0)), (102, .iconst 0, 103, (0, 0, 0, 0, 0, 0)), (103, .ireturn, 104, (0, 0, 0, 0, 0, 0))]
theorem okX2_pairUp : zv_ok 4 cX2_pairUp RX2 zt vwCl tbX2_pairUp = true := by decide +kernel
theorem dzX2_pairUp_7 : decode cX2_pairUp 7 = .ok (.ireturn, 1) := by decide +kernel
theorem dzX2_pairUp_81 : decode cX2_pairUp 81 = .ok (.invokevirtual 31, 3) := by decide +kernel
theorem dzX2_pairUp_95 : decode cX2_pairUp 95 = .ok (.ireturn, 1) := by decide +kernel
theorem dzX2_pairUp_103 : decode cX2_pairUp 103 = .ok (.ireturn, 1) := by decide +kernel
set_option maxRecDepth 100000 in
theorem inX2_pairUp : Jvm.Cond.code yX2_pairUp cX2_pairUp 4 ((some .boolean)) ∈ zt := List.mem_filter.mpr ⟨List.mem_append_right _ (List.mem_of_getElem? (i := 343) rfl), rfl⟩
def tbX7_init : List zv_I := [(0, .aload_n 0, 1, (0, 0, 0, 0, 0, 0)), (1, .invokespecial 3, 4, (0, 0, 0, 0, 0, 0)), (4, .aload_n 0, 5, (0, 0, 0, 0, 0, 0)), (5, .iconst (-1), 6, (0, 0, 0, 0, (-1), 0)), (6, .putfield 9, 9, (0, 7, 3, 0, 0, 0)), (9, .aload_n 0, 10, (0, 0, 0, 0, 0, 0)), (10, .aload_n 1, 11, (0, 0, 0, 0, 0, 0)), (14, .aload_n 0, 15, (0, 0, 0, 0, 0, 0)), (15, .aload_n 2, 16, (0, 0, 0, 0, 0, 0)), (19, .return_, 20, (0, 0, 0, 0, 0, 0))]
theorem okX7_init : zv_ok 3 cX7_init RX7 zt vwCl tbX7_init = true := by decide +kernel
theorem dzX7_init_1 : decode cX7_init 1 = .ok (.invokespecial 3, 3) := by decide +kernel
theorem dzX7_init_11 : decode cX7_init 11 = .ok (.putfield 15, 3) := by decide +kernel
theorem dzX7_init_16 : decode cX7_init 16 = .ok (.putfield 19, 3) := by decide +kernel
theorem dzX7_init_19 : decode cX7_init 19 = .ok (.return_, 1) := by decide +kernel
set_option maxRecDepth 100000 in
theorem inX7_init : Jvm.Cond.code yX7_init cX7_init 3 none ∈ zt := List.mem_filter.mpr ⟨List.mem_append_right _ (List.mem_of_getElem? (i := 106) rfl), rfl⟩
def tbX7_asSet : List zv_I := [(0, .aload_n 0, 1, (0, 0, 0, 0, 0, 0)), (1, .getfield 9, 4, (0, 7, 3, 0, 0, 0)), (4, .aload_n 0, 5, (0, 0, 0, 0, 0, 0)), (5, .getfield 15, 8, (0, 7, 0, 0, 0, 0)), (8, .getfield 23, 11, (2, 4, 3, 0, 0, 0)), (11, .if_icmp .eq 18, 14, (29, 0, 0, 0, 0, 0)), (14, .aload_n 0, 15, (0, 0, 0, 0, 0, 0)), (15, .aload_n 0, 16, (0, 0, 0, 0, 0, 0)), (16, .getfield 15, 19, (0, 7, 0, 0, 0, 0)), (19, .getfield 23, 22, (2, 4, 3, 0, 0, 0)), (22, .putfield 9, 25, (0, 7, 3, 0, 0, 0)), (25, .aload_n 0, 26, (0, 0, 0, 0, 0, 0)), (26, .invokevirtual 28, 29, (0, 0, 0, 0, 0, 0)), (29, .aload_n 0, 30, (0, 0, 0, 0, 0, 0)), (30, .getfield 31, 33, (0, 7, 2, 0, 0, 0)), (33, .ireturn, 34, (0, 0, 0, 0, 0, 0))]
theorem okX7_asSet : zv_ok 1 cX7_asSet RX7 zt vwCl tbX7_asSet = true := by decide +kernel
theorem dzX7_asSet_26 : decode cX7_asSet 26 = .ok (.invokevirtual 28, 3) := by decide +kernel
theorem dzX7_asSet_33 : decode cX7_asSet 33 = .ok (.ireturn, 1) := by decide +kernel
set_option maxRecDepth 100000 in
theorem inX7_asSet : Jvm.Cond.code yX7_asSet cX7_asSet 1 ((some .int)) ∈ zt := List.mem_filter.mpr ⟨List.mem_append_right _ (List.mem_of_getElem? (i := 325) rfl), rfl⟩
def tbX7_choose : List zv_I := [(0, .aload_n 0, 1, (0, 0, 0, 0, 0, 0)), (1, .getfield 15, 4, (0, 7, 0, 0, 0, 0)), (4, .invokevirtual 34, 7, (0, 0, 0, 0, 0, 0)), (7, .istore_n 1, 8, (0, 0, 0, 0, 0, 0)), (8, .aload_n 0, 9, (0, 0, 0, 0, 0, 0)), (9, .getfield 19, 12, (0, 7, 1, 0, 0, 0)), (12, .iload_n 1, 13, (0, 0, 0, 0, 0, 0)), (13, .invokevirtual 38, 16, (0, 0, 0, 0, 0, 0)), (16, .istore_n 2, 17, (0, 0, 0, 0, 0, 0)), (17, .aload_n 0, 18, (0, 0, 0, 0, 0, 0)), (18, .iconst 0, 19, (0, 0, 0, 0, 0, 0)), (19, .putfield 31, 22, (0, 7, 2, 0, 0, 0)), (22, .aload_n 0, 23, (0, 0, 0, 0, 0, 0)), (23, .getfield 15, 26, (0, 7, 0, 0, 0, 0)), (26, .getfield 44, 29, (2, 4, 2, 0, 0, 0)), (29, .iconst 1, 30, (0, 0, 0, 0, 1, 0)), (30, .isub, 31, (0, 0, 0, 0, 0, 0)), (31, .istore_n 3, 32, (0, 0, 0, 0, 0, 0)), (32, .iload_n 3, 33, (0, 0, 0, 0, 0, 0)), (33, .ifCond .lt 76, 36, (109, 0, 0, 0, 0, 0)), (36, .iload_n 1, 37, (0, 0, 0, 0, 0, 0)), (37, .iconst 1, 38, (0, 0, 0, 0, 1, 0)), (38, .iload_n 3, 39, (0, 0, 0, 0, 0, 0)), (39, .ishl, 40, (0, 0, 0, 0, 0, 0)), (40, .iand, 41, (0, 0, 0, 0, 0, 0)), (41, .ifCond .eq 62, 44, (103, 0, 0, 0, 0, 0)), (44, .iload_n 1, 45, (0, 0, 0, 0, 0, 0)), (45, .iconst 1, 46, (0, 0, 0, 0, 1, 0)), (46, .iload_n 3, 47, (0, 0, 0, 0, 0, 0)), (47, .ishl, 48, (0, 0, 0, 0, 0, 0)), (48, .iconst (-1), 49, (0, 0, 0, 0, (-1), 0)), (49, .ixor, 50, (0, 0, 0, 0, 0, 0)), (50, .iand, 51, (0, 0, 0, 0, 0, 0)), (51, .istore_n 1, 52, (0, 0, 0, 0, 0, 0)), (52, .aload_n 0, 53, (0, 0, 0, 0, 0, 0)), (53, .getfield 19, 56, (0, 7, 1, 0, 0, 0)), (56, .iload_n 1, 57, (0, 0, 0, 0, 0, 0)), (57, .invokevirtual 38, 60, (0, 0, 0, 0, 0, 0)), (60, .iload_n 2, 61, (0, 0, 0, 0, 0, 0)), (61, .if_icmp .ge 42, 64, (103, 0, 0, 0, 0, 0)), (64, .aload_n 0, 65, (0, 0, 0, 0, 0, 0)), (65, .dup, 66, (0, 0, 0, 0, 0, 0)), (66, .getfield 31, 69, (0, 7, 2, 0, 0, 0)), (69, .iconst 1, 70, (0, 0, 0, 0, 1, 0)), (70, .iload_n 3, 71, (0, 0, 0, 0, 0, 0)), (71, .ishl, 72, (0, 0, 0, 0, 0, 0)), (72, .ior, 73, (0, 0, 0, 0, 0, 0)), (73, .putfield 31, 76, (0, 7, 2, 0, 0, 0)), (76, .iinc 2 (-1), 79, (0, 0, 0, 0, (-1), 0)), (79, .iload_n 1, 80, (0, 0, 0, 0, 0, 0)), (80, .aload_n 0, 81, (0, 0, 0, 0, 0, 0)), (81, .getfield 15, 84, (0, 7, 0, 0, 0, 0)), (84, .getfield 47, 87, (2, 4, 0, 0, 0, 0)), (87, .iload_n 3, 88, (0, 0, 0, 0, 0, 0)), (88, .iaload, 89, (3, 0, 0, 0, 0, 0)), (89, .aload_n 0, 90, (0, 0, 0, 0, 0, 0)), (90, .getfield 15, 93, (0, 7, 0, 0, 0, 0)), (93, .getfield 51, 96, (2, 4, 1, 0, 0, 0)), (96, .iload_n 3, 97, (0, 0, 0, 0, 0, 0)), (97, .iaload, 98, (4, 0, 0, 0, 0, 0)), (98, .ior, 99, (0, 0, 0, 0, 0, 0)), (99, .iconst (-1), 100, (0, 0, 0, 0, (-1), 0)), (100, .ixor, 101, (0, 0, 0, 0, 0, 0)), (101, .iand, 102, (0, 0, 0, 0, 0, 0)), (102, .istore_n 1, 103, (0, 0, 0, 0, 0, 0)), (103, .iinc 3 (-1), 106, (0, 0, 0, 0, (-1), 0)), (106, .goto (-74), 109, (32, 0, 0, 0, 0, 0)), (109, .return_, 110, (0, 0, 0, 0, 0, 0))]
theorem okX7_choose : zv_ok 4 cX7_choose RX7 zt vwCl tbX7_choose = true := by decide +kernel
theorem dzX7_choose_4 : decode cX7_choose 4 = .ok (.invokevirtual 34, 3) := by decide +kernel
theorem dzX7_choose_13 : decode cX7_choose 13 = .ok (.invokevirtual 38, 3) := by decide +kernel
theorem dzX7_choose_57 : decode cX7_choose 57 = .ok (.invokevirtual 38, 3) := by decide +kernel
theorem dzX7_choose_109 : decode cX7_choose 109 = .ok (.return_, 1) := by decide +kernel
set_option maxRecDepth 100000 in
theorem inX7_choose : Jvm.Cond.code yX7_choose cX7_choose 4 none ∈ zt := List.mem_filter.mpr ⟨List.mem_append_right _ (List.mem_of_getElem? (i := 329) rfl), rfl⟩
def tbX5_init : List zv_I := [(0, .aload_n 0, 1, (0, 0, 0, 0, 0, 0)), (1, .invokespecial 3, 4, (0, 0, 0, 0, 0, 0)), (4, .aload_n 0, 5, (0, 0, 0, 0, 0, 0)), (5, .bipush 14, 7, (0, 0, 0, 0, 14, 0)), (7, .newarray .int, 9, (0, 0, 0, 0, 0, 0)), (12, .aload_n 0, 13, (0, 0, 0, 0, 0, 0)), (13, .iconst (-1), 14, (0, 0, 0, 0, (-1), 0)), (14, .putfield 15, 17, (0, 5, 3, 0, 0, 0)), (17, .aload_n 0, 18, (0, 0, 0, 0, 0, 0)), (18, .aload_n 1, 19, (0, 0, 0, 0, 0, 0)), (22, .aload_n 0, 23, (0, 0, 0, 0, 0, 0)), (23, .aload_n 2, 24, (0, 0, 0, 0, 0, 0)), (27, .return_, 28, (0, 0, 0, 0, 0, 0))]
theorem okX5_init : zv_ok 3 cX5_init RX5 zt vwCl tbX5_init = true := by decide +kernel
theorem dzX5_init_1 : decode cX5_init 1 = .ok (.invokespecial 3, 3) := by decide +kernel
theorem dzX5_init_7 : decode cX5_init 7 = .ok (.newarray .int, 2) := by decide +kernel
theorem dzX5_init_9 : decode cX5_init 9 = .ok (.putfield 9, 3) := by decide +kernel
theorem dzX5_init_19 : decode cX5_init 19 = .ok (.putfield 19, 3) := by decide +kernel
theorem dzX5_init_24 : decode cX5_init 24 = .ok (.putfield 23, 3) := by decide +kernel
theorem dzX5_init_27 : decode cX5_init 27 = .ok (.return_, 1) := by decide +kernel
set_option maxRecDepth 100000 in
theorem inX5_init : Jvm.Cond.code yX5_init cX5_init 3 none ∈ zt := List.mem_filter.mpr ⟨List.mem_append_right _ (List.mem_of_getElem? (i := 125) rfl), rfl⟩
def tbX5_nextOf : List zv_I := [(0, .aload_n 0, 1, (0, 0, 0, 0, 0, 0)), (1, .getfield 15, 4, (0, 5, 3, 0, 0, 0)), (4, .aload_n 0, 5, (0, 0, 0, 0, 0, 0)), (5, .getfield 19, 8, (0, 5, 0, 0, 0, 0)), (8, .getfield 27, 11, (2, 4, 3, 0, 0, 0)), (11, .if_icmp .eq 18, 14, (29, 0, 0, 0, 0, 0)), (14, .aload_n 0, 15, (0, 0, 0, 0, 0, 0)), (15, .aload_n 0, 16, (0, 0, 0, 0, 0, 0)), (16, .getfield 19, 19, (0, 5, 0, 0, 0, 0)), (19, .getfield 27, 22, (2, 4, 3, 0, 0, 0)), (22, .putfield 15, 25, (0, 5, 3, 0, 0, 0)), (25, .aload_n 0, 26, (0, 0, 0, 0, 0, 0)), (26, .invokevirtual 32, 29, (0, 0, 0, 0, 0, 0)), (29, .aload_n 0, 30, (0, 0, 0, 0, 0, 0)), (30, .getfield 9, 33, (0, 5, 2, 0, 0, 0)), (33, .iload_n 1, 34, (0, 0, 0, 0, 0, 0)), (34, .iaload, 35, (6, 0, 0, 0, 0, 0)), (35, .ireturn, 36, (0, 0, 0, 0, 0, 0))]
theorem okX5_nextOf : zv_ok 2 cX5_nextOf RX5 zt vwCl tbX5_nextOf = true := by decide +kernel
theorem dzX5_nextOf_26 : decode cX5_nextOf 26 = .ok (.invokevirtual 32, 3) := by decide +kernel
theorem dzX5_nextOf_35 : decode cX5_nextOf 35 = .ok (.ireturn, 1) := by decide +kernel
set_option maxRecDepth 100000 in
theorem inX5_nextOf : Jvm.Cond.code yX5_nextOf cX5_nextOf 2 ((some .int)) ∈ zt := List.mem_filter.mpr ⟨List.mem_append_right _ (List.mem_of_getElem? (i := 431) rfl), rfl⟩
def tbX5_link : List zv_I := [(0, .aload_n 0, 1, (0, 0, 0, 0, 0, 0)), (1, .getfield 19, 4, (0, 5, 0, 0, 0, 0)), (4, .invokevirtual 35, 7, (0, 0, 0, 0, 0, 0)), (7, .istore_n 1, 8, (0, 0, 0, 0, 0, 0)), (8, .aload_n 0, 9, (0, 0, 0, 0, 0, 0)), (9, .getfield 23, 12, (0, 5, 1, 0, 0, 0)), (12, .iload_n 1, 13, (0, 0, 0, 0, 0, 0)), (13, .iload_n 1, 14, (0, 0, 0, 0, 0, 0)), (14, .invokevirtual 39, 17, (0, 0, 0, 0, 0, 0)), (17, .istore_n 2, 18, (0, 0, 0, 0, 0, 0)), (18, .iconst 0, 19, (0, 0, 0, 0, 0, 0)), (19, .istore_n 3, 20, (0, 0, 0, 0, 0, 0)), (20, .iload_n 3, 21, (0, 0, 0, 0, 0, 0)), (21, .aload_n 0, 22, (0, 0, 0, 0, 0, 0)), (22, .getfield 19, 25, (0, 5, 0, 0, 0, 0)), (25, .getfield 45, 28, (2, 4, 2, 0, 0, 0)), (28, .if_icmp .ge 48, 31, (76, 0, 0, 0, 0, 0)), (31, .aload_n 0, 32, (0, 0, 0, 0, 0, 0)), (32, .getfield 9, 35, (0, 5, 2, 0, 0, 0)), (35, .iload_n 3, 36, (0, 0, 0, 0, 0, 0)), (36, .aload_n 0, 37, (0, 0, 0, 0, 0, 0)), (37, .iload_n 3, 38, (0, 0, 0, 0, 0, 0)), (38, .iload_n 1, 39, (0, 0, 0, 0, 0, 0)), (39, .iload_n 2, 40, (0, 0, 0, 0, 0, 0)), (40, .invokevirtual 48, 43, (0, 0, 0, 0, 0, 0)), (43, .iastore, 44, (6, 0, 0, 0, 0, 0)), (44, .aload_n 0, 45, (0, 0, 0, 0, 0, 0)), (45, .getfield 9, 48, (0, 5, 2, 0, 0, 0)), (48, .iload_n 3, 49, (0, 0, 0, 0, 0, 0)), (49, .iaload, 50, (6, 0, 0, 0, 0, 0)), (50, .iconst (-1), 51, (0, 0, 0, 0, (-1), 0)), (51, .if_icmp .eq 19, 54, (70, 0, 0, 0, 0, 0)), (54, .iload_n 1, 55, (0, 0, 0, 0, 0, 0)), (55, .iconst 1, 56, (0, 0, 0, 0, 1, 0)), (56, .aload_n 0, 57, (0, 0, 0, 0, 0, 0)), (57, .getfield 9, 60, (0, 5, 2, 0, 0, 0)), (60, .iload_n 3, 61, (0, 0, 0, 0, 0, 0)), (61, .iaload, 62, (6, 0, 0, 0, 0, 0)), (62, .ishl, 63, (0, 0, 0, 0, 0, 0)), (63, .iconst (-1), 64, (0, 0, 0, 0, (-1), 0)), (64, .ixor, 65, (0, 0, 0, 0, 0, 0)), (65, .iand, 66, (0, 0, 0, 0, 0, 0)), (66, .istore_n 1, 67, (0, 0, 0, 0, 0, 0)), (67, .iinc 2 (-1), 70, (0, 0, 0, 0, (-1), 0)), (70, .iinc 3 1, 73, (0, 0, 0, 0, 1, 0)), (73, .goto (-53), 76, (20, 0, 0, 0, 0, 0)), (76, .return_, 77, (0, 0, 0, 0, 0, 0))]
theorem okX5_link : zv_ok 4 cX5_link RX5 zt vwCl tbX5_link = true := by decide +kernel
theorem dzX5_link_4 : decode cX5_link 4 = .ok (.invokevirtual 35, 3) := by decide +kernel
theorem dzX5_link_14 : decode cX5_link 14 = .ok (.invokevirtual 39, 3) := by decide +kernel
theorem dzX5_link_40 : decode cX5_link 40 = .ok (.invokevirtual 48, 3) := by decide +kernel
theorem dzX5_link_76 : decode cX5_link 76 = .ok (.return_, 1) := by decide +kernel
set_option maxRecDepth 100000 in
theorem inX5_link : Jvm.Cond.code yX5_link cX5_link 4 none ∈ zt := List.mem_filter.mpr ⟨List.mem_append_right _ (List.mem_of_getElem? (i := 435) rfl), rfl⟩
def tbX5_leastGoodLink : List zv_I := [(0, .aload_n 0, 1, (0, 0, 0, 0, 0, 0)), (1, .getfield 19, 4, (0, 5, 0, 0, 0, 0)), (4, .invokevirtual 35, 7, (0, 0, 0, 0, 0, 0)), (7, .iconst 1, 8, (0, 0, 0, 0, 1, 0)), (8, .iload_n 1, 9, (0, 0, 0, 0, 0, 0)), (9, .iconst 1, 10, (0, 0, 0, 0, 1, 0)), (10, .iadd, 11, (0, 0, 0, 0, 0, 0)), (11, .ishl, 12, (0, 0, 0, 0, 0, 0)), (12, .ineg, 13, (0, 0, 0, 0, 0, 0)), (13, .iand, 14, (0, 0, 0, 0, 0, 0)), (14, .istore 4, 16, (0, 0, 0, 0, 0, 0)), (16, .iconst 0, 17, (0, 0, 0, 0, 0, 0)), (17, .istore 5, 19, (0, 0, 0, 0, 0, 0)), (19, .iload 5, 21, (0, 0, 0, 0, 0, 0)), (21, .aload_n 0, 22, (0, 0, 0, 0, 0, 0)), (22, .getfield 19, 25, (0, 5, 0, 0, 0, 0)), (25, .getfield 45, 28, (2, 4, 2, 0, 0, 0)), (28, .if_icmp .ge 54, 31, (82, 0, 0, 0, 0, 0)), (31, .aload_n 0, 32, (0, 0, 0, 0, 0, 0)), (32, .getfield 19, 35, (0, 5, 0, 0, 0, 0)), (35, .getfield 52, 38, (2, 4, 1, 0, 0, 0)), (38, .iload_n 1, 39, (0, 0, 0, 0, 0, 0)), (39, .iaload, 40, (4, 0, 0, 0, 0, 0)), (40, .iload_n 2, 41, (0, 0, 0, 0, 0, 0)), (41, .iand, 42, (0, 0, 0, 0, 0, 0)), (42, .iconst 1, 43, (0, 0, 0, 0, 1, 0)), (43, .iload 5, 45, (0, 0, 0, 0, 0, 0)), (45, .ishl, 46, (0, 0, 0, 0, 0, 0)), (46, .iand, 47, (0, 0, 0, 0, 0, 0)), (47, .ifCond .eq 29, 50, (76, 0, 0, 0, 0, 0)), (50, .aload_n 0, 51, (0, 0, 0, 0, 0, 0)), (51, .getfield 23, 54, (0, 5, 1, 0, 0, 0)), (54, .iload 4, 56, (0, 0, 0, 0, 0, 0)), (56, .iload_n 2, 57, (0, 0, 0, 0, 0, 0)), (57, .iconst 1, 58, (0, 0, 0, 0, 1, 0)), (58, .iload 5, 60, (0, 0, 0, 0, 0, 0)), (60, .ishl, 61, (0, 0, 0, 0, 0, 0)), (61, .iconst (-1), 62, (0, 0, 0, 0, (-1), 0)), (62, .ixor, 63, (0, 0, 0, 0, 0, 0)), (63, .iand, 64, (0, 0, 0, 0, 0, 0)), (64, .invokevirtual 39, 67, (0, 0, 0, 0, 0, 0)), (67, .iload_n 3, 68, (0, 0, 0, 0, 0, 0)), (68, .iconst 1, 69, (0, 0, 0, 0, 1, 0)), (69, .isub, 70, (0, 0, 0, 0, 0, 0)), (70, .if_icmp .ne 6, 73, (76, 0, 0, 0, 0, 0)), (73, .iload 5, 75, (0, 0, 0, 0, 0, 0)), (75, .ireturn, 76, (0, 0, 0, 0, 0, 0)), (76, .iinc 5 1, 79, (0, 0, 0, 0, 1, 0)), (79, .goto (-60), 82, (19, 0, 0, 0, 0, 0)), (82, .iconst (-1), 83, (0, 0, 0, 0, (-1), 0)), (83, .ireturn, 84, (0, 0, 0, 0, 0, 0))]
theorem okX5_leastGoodLink : zv_ok 6 cX5_leastGoodLink RX5 zt vwCl tbX5_leastGoodLink = true := by decide +kernel
theorem dzX5_leastGoodLink_4 : decode cX5_leastGoodLink 4 = .ok (.invokevirtual 35, 3) := by decide +kernel
theorem dzX5_leastGoodLink_64 : decode cX5_leastGoodLink 64 = .ok (.invokevirtual 39, 3) := by decide +kernel
theorem dzX5_leastGoodLink_75 : decode cX5_leastGoodLink 75 = .ok (.ireturn, 1) := by decide +kernel
theorem dzX5_leastGoodLink_83 : decode cX5_leastGoodLink 83 = .ok (.ireturn, 1) := by decide +kernel
set_option maxRecDepth 100000 in
theorem inX5_leastGoodLink : Jvm.Cond.code yX5_leastGoodLink cX5_leastGoodLink 6 ((some .int)) ∈ zt := List.mem_filter.mpr ⟨List.mem_append_right _ (List.mem_of_getElem? (i := 441) rfl), rfl⟩
end
section
/-! MATCHING: pairUp, most, widthOf -/
abbrev wM (K : zK) (m o b a p : Nat) (bl ab : Nat → Nat) (n : Nat) (ver : Int32) (pf : Nat → Int32) (up tr : Int32) : va_W := [(m, .inr (2, [.ref o, .ref p, .int up, .int tr])), (o, .inr (4, [.ref b, .ref a, .int (nI n), .int ver])), (b, .inl (cI K, 14, .inl (fun j => nI (bl j)))), (a, .inl (cI K, 14, .inl (fun j => nI (ab j)))), (p, .inl (cI K, 14, .inl pf))]
def oI : Option Nat → Int32
  | none => -1
  | some j => nI j
theorem nI_m1 {j : Nat} (h : j < 2 ^ 31) : ¬ nI j = -1 := by
  intro e
  have h1 := congrArg Int32.toInt e
  rw [nI_toInt h] at h1
  have h2 : (-1 : Int32).toInt = -1 := by decide
  omega
/-- the run over the uppers of one lower; F: the run for one that must give way -/
def pul (ab : Nat → Nat) (n up : Nat) (F : Nat → (Nat → Option Nat) → Nat → Bool × (Nat → Option Nat) × Nat) (lower : Nat) : Nat → (Nat → Option Nat) → Nat → Bool × (Nat → Option Nat) × Nat
  | 0, P, T => (false, P, T)
  | m + 1, P, T =>
    if (ab lower &&& up).testBit (n - (m + 1)) = true ∧ T.testBit (n - (m + 1)) = false then
      match P (n - (m + 1)) with
      | none => (true, va_up P (n - (m + 1)) (some lower), T ||| 2 ^ (n - (m + 1)))
      | some j => match F j P (T ||| 2 ^ (n - (m + 1))) with
        | (true, P2, T2) => (true, va_up P2 (n - (m + 1)) (some lower), T2)
        | (false, P2, T2) => pul ab n up F lower m P2 T2
    else pul ab n up F lower m P T
def pu (ab : Nat → Nat) (n up : Nat) : Nat → Nat → (Nat → Option Nat) → Nat → Bool × (Nat → Option Nat) × Nat
  | 0, _, P, T => (false, P, T)
  | d + 1, lower, P, T => pul ab n up (pu ab n up d) lower n P T
def puV (P : Nat → Option Nat) : Prop := ∀ u j, P u = some j → j < 14
theorem puV_up {P : Nat → Option Nat} (h : puV P) {u j : Nat} (hj : j < 14) : puV (va_up P u (some j)) := by
  intro v i hv
  unfold va_up at hv
  by_cases e : v = u
  · rw [if_pos e] at hv
    cases hv
    exact hj
  · rw [if_neg e] at hv
    exact h v i hv
theorem pul_ok {ab : Nat → Nat} {n up : Nat} {F : Nat → (Nat → Option Nat) → Nat → Bool × (Nat → Option Nat) × Nat} (hn : n ≤ 14) (hF : ∀ j P T, j < 14 → puV P → T < 2 ^ 14 → puV (F j P T).2.1 ∧ (F j P T).2.2 < 2 ^ 14) {lower : Nat} (hl : lower < 14) : ∀ (m : Nat) (P : Nat → Option Nat) (T : Nat), m ≤ n → puV P → T < 2 ^ 14 → puV (pul ab n up F lower m P T).2.1 ∧ (pul ab n up F lower m P T).2.2 < 2 ^ 14
  | 0, P, T, _, hP, hT => ⟨hP, hT⟩
  | m + 1, P, T, hm, hP, hT => by
    have hT2 : T ||| 2 ^ (n - (m + 1)) < 2 ^ 14 := nb_lt_or hT (nb_lt_pow (by omega))
    unfold pul
    split
    · split
      · exact ⟨puV_up hP hl, hT2⟩
      · rename_i j hj
        have h1 := hF j P (T ||| 2 ^ (n - (m + 1))) (hP _ _ hj) hP hT2
        split
        · rename_i P2 T2 he
          rw [he] at h1
          exact ⟨puV_up h1.1 hl, h1.2⟩
        · rename_i P2 T2 he
          rw [he] at h1
          exact pul_ok hn hF hl m P2 T2 (by omega) h1.1 h1.2
    · exact pul_ok hn hF hl m P T (by omega) hP hT
theorem pu_ok {ab : Nat → Nat} {n up : Nat} (hn : n ≤ 14) : ∀ (d lower : Nat) (P : Nat → Option Nat) (T : Nat), lower < 14 → puV P → T < 2 ^ 14 → puV (pu ab n up d lower P T).2.1 ∧ (pu ab n up d lower P T).2.2 < 2 ^ 14
  | 0, _, P, T, _, hP, hT => ⟨hP, hT⟩
  | d + 1, lower, P, T, hl, hP, hT => pul_ok hn (fun j P T => pu_ok hn d j P T) hl n P T (Nat.le_refl _) hP hT
theorem oI_up (P : Nat → Option Nat) (u lower : Nat) : upd (fun j => oI (P j)) u (nI lower) = fun j => oI (va_up P u (some lower) j) := by
  funext j
  unfold va_up
  by_cases e : j = u
  · rw [e, pk_us, if_pos rfl]; rfl
  · rw [pk_un e, if_neg e]
set_option maxHeartbeats 4000000 in
set_option maxRecDepth 100000 in
theorem c_pairUp (K : zK) (m o b a p : Nat) (bl ab : Nat → Nat) (n : Nat) (ver : Int32) (up : Nat) (hn : n ≤ 14) (ha : ∀ j, ab j < 2 ^ 14) : ∀ (d : Nat), d ≤ 15 → ∀ (lower : Nat) (P : Nat → Option Nat) (T : Nat), lower < 14 → puV P → T < 2 ^ 14 →
    zD K yX2_pairUp cX2_pairUp 4 (some .boolean) (zq d 0 0 (23 * d)) [.ref m, .int (nI lower), .int (nI (15 - d))] (wM K m o b a p bl ab n ver (fun j => oI (P j)) (nI up) (nI T)) (some (.int (bI (pu ab n up d lower P T).1))) (wM K m o b a p bl ab n ver (fun j => oI ((pu ab n up d lower P T).2.1 j)) (nI up) (nI (pu ab n up d lower P T).2.2)) := by
  intro d
  induction d with
  | zero =>
    intro _ lower P T hl hP hT
    refine zo (by decide) (Nat.le_of_ble_eq_true rfl) fun x C R _ => ?_
    refine zv_go C okX2_pairUp [] 20 ?_
    refine ⟨fun h => absurd h (by decide), fun _ => ?_⟩
    exact zr R () [0, 1, 2, 3, 4] (some (.int 0)) _ rfl rfl trivial rfl rfl (Nat.le_refl _) (Nat.le_refl _) ⟨rfl, dzX2_pairUp_7⟩
  | succ d ihd =>
    intro hd lower P0 T0 hl hP0 hT0
    have ihd := ihd (by omega)
    refine zo (by decide) (Nat.le_of_ble_eq_true rfl) fun x C R _ => ?_
    have loop : ∀ mm (P : Nat → Option Nat) (T : Nat), mm ≤ n → puV P → T < 2 ^ 14 → pul ab n up (pu ab n up d) lower mm P T = pu ab n up (d + 1) lower P0 T0 → zv_V x (gz K (zq (d + 1) 0 0 (23 * (d + 1))) 4 cX2_pairUp yX2_pairUp.cls) 10 [(0, .ref m), (1, .int (nI lower)), (2, .int (nI (15 - (d + 1)))), (3, .int (nI (n - mm)))] [] (wM K m o b a p bl ab n ver (fun j => oI (P j)) (nI up) (nI T)) 0 0 := by
      intro mm
      induction mm with
      | zero =>
        intro P T _ hP hT he
        refine zv_go C okX2_pairUp [] 20 ?_
        refine ⟨rfl, rfl, fun _ => ?_, fun h => absurd (nI_le (by omega) (by omega)) h⟩
        have he : (false, P, T) = pu ab n up (d + 1) lower P0 T0 := he
        exact zr R () [0, 1, 2, 3, 4] (some (.int 0)) _ (by rw [← he]; rfl) (by rw [← he]) trivial rfl rfl (Nat.le_refl _) (Nat.le_refl _) ⟨rfl, dzX2_pairUp_103⟩
      | succ mm ih =>
        intro P T hmm hP hT he
        have hu : n - (mm + 1) < n := by omega
        have hT2 : T ||| 2 ^ (n - (mm + 1)) < 2 ^ 14 := nb_lt_or hT (nb_lt_pow (by omega))
        have hsl : ndf (ab lower &&& up) T < 2 ^ 32 := Nat.lt_of_le_of_lt (ndf_le _ _) (Nat.lt_of_le_of_lt Nat.and_le_left (Nat.lt_trans (ha lower) (by decide)))
        have enx : nI (n - (mm + 1)) + 1 = nI (n - mm) := by rw [nI_1]; congr 1; omega
        refine zv_go C okX2_pairUp [10] 60 ?_
        refine ⟨rfl, rfl, fun h => absurd h (nI_ge (by omega) (by omega)), fun _ => ⟨rfl, rfl, ⟨rfl, rfl⟩, vp_in_nI hl (by decide), rfl, rfl, fun h => ?_, fun h => ⟨rfl, rfl, rfl, ⟨rfl, rfl⟩, vp_in_nI (by omega) (by decide), fun h2 => ⟨rfl, ⟨rfl, rfl⟩, vp_in_nI (by omega) (by decide), ?_⟩, fun h2 => ⟨rfl, ⟨rfl, rfl⟩, vp_in_nI (by omega) (by decide), ?_⟩⟩⟩⟩
        · -- not to be tried
          rw [nI_clamp (by omega), nb_and, nb_not, nb_t0 hsl (by omega), ndf_tb] at h
          unfold pul at he
          rw [if_neg (fun q => by rw [q.1, q.2] at h; cases h)] at he
          exact zv_to C (lv' := [(0, .ref m), (1, .int (nI lower)), (2, .int (nI (15 - (d + 1)))), (3, .int (nI (n - mm)))]) (by rw [← enx]; rfl) rfl rfl (ih P T (by omega) hP hT he)
        · -- free: taken
          rw [nI_clamp (by omega), nb_and, nb_not, nb_t1 hsl (by omega), ndf_tb, Bool.and_eq_true, Bool.not_eq_true'] at h
          have h2 : oI (P (nI (n - (mm + 1))).toNatClampNeg) = -1 := h2
          rw [nI_clamp (by omega)] at h2
          have hp : P (n - (mm + 1)) = none := by
            cases hq : P (n - (mm + 1)) with
            | none => rfl
            | some j => rw [hq] at h2; exact absurd h2 (nI_m1 (Nat.lt_trans (hP _ _ hq) (by decide)))
          unfold pul at he
          rw [if_pos h] at he
          rw [hp] at he
          refine zr R () [0, 1, 2, 3, 4] (some (.int 1)) (wM K m o b a p bl ab n ver (fun j => oI (va_up P (n - (mm + 1)) (some lower) j)) (nI up) (nI (T ||| 2 ^ (n - (mm + 1))))) (by rw [← he]; rfl) (by rw [← he]) trivial ?_ rfl (Nat.le_refl _) (Nat.le_refl _) ⟨rfl, dzX2_pairUp_95⟩
          rw [← oI_up, ← nb_or, ← nb_1s (n - (mm + 1)) (by omega)]
          have ec : (nI (n - (mm + 1))).toNatClampNeg = n - (mm + 1) := nI_clamp (by omega)
          show [some _, some _, some _, some _, some (p, Sum.inl (cI K, 14, Sum.inl (upd (fun j => oI (P j)) (nI (n - (mm + 1))).toNatClampNeg (nI lower))))] = _
          rw [ec]
          rfl
        · -- taken by one that may give way
          rw [nI_clamp (by omega), nb_and, nb_not, nb_t1 hsl (by omega), ndf_tb, Bool.and_eq_true, Bool.not_eq_true'] at h
          have h2 : ¬ oI (P (nI (n - (mm + 1))).toNatClampNeg) = -1 := h2
          rw [nI_clamp (by omega)] at h2
          cases hq : P (n - (mm + 1)) with
          | none => rw [hq] at h2; exact absurd rfl h2
          | some j =>
            have hj := hP _ _ hq
            unfold pul at he
            rw [if_pos h] at he
            rw [hq] at he
            dsimp only at he
            have hok := pu_ok (ab := ab) (up := up) hn d j P (T ||| 2 ^ (n - (mm + 1))) hj hP hT2
            refine zv_to C rfl (st' := [.int (nI (15 - d)), .int (nI j), .ref m]) ?_ (ws' := wM K m o b a p bl ab n ver (fun j => oI (P j)) (nI up) (nI (T ||| 2 ^ (n - (mm + 1))))) ?_ ?_
            · show [Value.int (nI (15 - (d + 1)) + 1), Value.int (oI (P (nI (n - (mm + 1))).toNatClampNeg)), Value.ref m] = _
              rw [nI_clamp (by omega), hq, nI_1]
              have e9 : 15 - (d + 1) + 1 = 15 - d := by omega
              rw [e9]
              rfl
            · rw [← nb_or, ← nb_1s (n - (mm + 1)) (by omega)]
              rfl
            refine zv_callV C (ihd j P (T ||| 2 ^ (n - (mm + 1))) hj hP hT2) (zw_V inX2_pairUp kX2_31 ⟨Nat.le_refl _, by show 8 + (4 + 11) + 23 * d ≤ 23 * (d + 1); omega⟩) [0, 1, 2, 3, 4] 0 rfl rfl rfl rfl (fun _ => Nat.le_refl _) rfl rfl (by decide) dzX2_pairUp_81 (Nat.le_refl _) (Nat.le_refl _) rfl (fun _ _ => ?_)
            generalize hr : pu ab n up d j P (T ||| 2 ^ (n - (mm + 1))) = r at he hok ⊢
            obtain ⟨r1, P2, T2⟩ := r
            refine zv_to C rfl rfl (ws' := wM K m o b a p bl ab n ver (fun j => oI (P2 j)) (nI up) (nI T2)) rfl ?_
            refine zv_go C okX2_pairUp [10] 60 ?_
            refine ⟨fun h3 => ?_, fun h3 => ⟨rfl, ⟨rfl, rfl⟩, vp_in_nI (by omega) (by decide), ?_⟩⟩
            · rw [bI_0] at h3
              have h3 : r1 = false := h3
              subst h3
              exact zv_to C (lv' := [(0, .ref m), (1, .int (nI lower)), (2, .int (nI (15 - (d + 1)))), (3, .int (nI (n - mm)))]) (by rw [← enx]; rfl) rfl rfl (ih P2 T2 (by omega) hok.1 hok.2 he)
            · rw [bI_1] at h3
              have h3 : r1 = true := h3
              subst h3
              refine zr R () [0, 1, 2, 3, 4] (some (.int 1)) (wM K m o b a p bl ab n ver (fun j => oI (va_up P2 (n - (mm + 1)) (some lower) j)) (nI up) (nI T2)) (by rw [← he]; rfl) (by rw [← he]) trivial ?_ rfl (Nat.le_refl _) (Nat.le_refl _) ⟨rfl, dzX2_pairUp_95⟩
              rw [← oI_up]
              have ec : (nI (n - (mm + 1))).toNatClampNeg = n - (mm + 1) := nI_clamp (by omega)
              show [some _, some _, some _, some _, some (p, Sum.inl (cI K, 14, Sum.inl (upd (fun j => oI (P2 j)) (nI (n - (mm + 1))).toNatClampNeg (nI lower))))] = _
              rw [ec]
              rfl
    refine zv_go C okX2_pairUp [10] 20 ?_
    refine ⟨fun _ => ?_, fun h => absurd (nI_le (a := 15 - (d + 1)) (b := 14) (by omega) (by decide)) h⟩
    refine zv_to C (lv' := [(0, .ref m), (1, .int (nI lower)), (2, .int (nI (15 - (d + 1)))), (3, .int (nI (n - n)))]) (by rw [Nat.sub_self]; rfl) rfl rfl (loop n P0 T0 (Nat.le_refl _) hP0 hT0 rfl)
end
section
/-! MATCHING: most, widthOf -/
def msS (ab : Nat → Nat) (n lo up : Nat) : Nat → (Nat → Option Nat) × Nat
  | 0 => (fun _ => none, 0)
  | k + 1 => if lo.testBit k = true then ((pu ab n up 15 k (msS ab n lo up k).1 0).2.1, if (pu ab n up 15 k (msS ab n lo up k).1 0).1 = true then (msS ab n lo up k).2 + 1 else (msS ab n lo up k).2) else msS ab n lo up k
def mst (ab : Nat → Nat) (n lo up : Nat) : Nat := (msS ab n lo up n).2
theorem msS_ok {ab : Nat → Nat} {n lo up : Nat} (hn : n ≤ 14) : ∀ k, k ≤ n → puV (msS ab n lo up k).1
  | 0, _ => fun _ _ h => by cases h
  | k + 1, hk => by
    have h := msS_ok (lo := lo) (up := up) (ab := ab) hn k (by omega)
    unfold msS
    split
    · exact (pu_ok hn 15 k _ 0 (by omega) h (by decide)).1
    · exact h
/-- a matching's own scratch: its partners, its uppers, what it tried -/
abbrev zS : Type := (Nat → Int32) × Int32 × Int32
set_option maxHeartbeats 4000000 in
set_option maxRecDepth 100000 in
theorem c_most (K : zK) (m o b a p : Nat) (bl ab : Nat → Nat) (n : Nat) (ver : Int32) (q : zS) {lo up : Nat} (hlo : lo < 2 ^ 32) (hn : n ≤ 14) (ha : ∀ j, ab j < 2 ^ 14) :
    zM (S := zS) K yX2_most cX2_most 5 (some .int) (zq 16 0 0 368) [.ref m, .int (nI lo), .int (nI up)] (wM K m o b a p bl ab n ver q.1 q.2.1 q.2.2) (fun _ => True) (fun _ => some (.int (nI (mst ab n lo up)))) (fun u => wM K m o b a p bl ab n ver u.1 u.2.1 u.2.2) := by
  refine zo (by decide) (Nat.le_of_ble_eq_true rfl) fun x C R _ => ?_
  have loop2 : ∀ mm k (tr : Int32), k + mm = n → zv_V x (gz K (zq 16 0 0 368) 5 cX2_most yX2_most.cls) 31 [(0, .ref m), (1, .int (nI lo)), (2, .int (nI up)), (3, .int (nI (msS ab n lo up k).2)), (4, .int (nI k))] [] (wM K m o b a p bl ab n ver (fun j => oI ((msS ab n lo up k).1 j)) (nI up) tr) 0 0 := by
    intro mm
    induction mm with
    | zero =>
      intro k tr hk
      have e : k = n := by omega
      subst e
      refine zv_go C okX2_most [] 20 ?_
      refine ⟨rfl, rfl, fun _ => ?_, fun h => absurd (nI_le (Nat.le_refl _) (by omega)) h⟩
      exact zr R (_, _, _) [0, 1, 2, 3, 4] (some (.int _)) _ rfl rfl trivial rfl rfl (Nat.le_refl _) (Nat.le_refl _) dzX2_most_77
    | succ mm ih =>
      intro k tr hk
      refine zv_go C okX2_most [31] 40 ?_
      refine ⟨rfl, rfl, fun h => absurd h (nI_ge (by omega) (by omega)), fun _ => ⟨rfl, fun h => ?_, fun h => ?_⟩⟩
      · rw [nb_t0 hlo (by omega)] at h
        have e : msS ab n lo up (k + 1) = msS ab n lo up k := by
          show (if lo.testBit k = true then _ else _) = _
          rw [if_neg (by rw [h]; decide)]
        refine zv_to C (lv' := [(0, .ref m), (1, .int (nI lo)), (2, .int (nI up)), (3, .int (nI (msS ab n lo up (k + 1)).2)), (4, .int (nI (k + 1)))]) (by rw [e, ← nI_1]; rfl) rfl (ws' := wM K m o b a p bl ab n ver (fun j => oI ((msS ab n lo up (k + 1)).1 j)) (nI up) 0) (by rw [e]; rfl) (ih (k + 1) 0 (by omega))
      · rw [nb_t1 hlo (by omega)] at h
        have e : msS ab n lo up (k + 1) = ((pu ab n up 15 k (msS ab n lo up k).1 0).2.1, if (pu ab n up 15 k (msS ab n lo up k).1 0).1 = true then (msS ab n lo up k).2 + 1 else (msS ab n lo up k).2) := by
          show (if lo.testBit k = true then _ else _) = _
          rw [if_pos h]
        have hpv := msS_ok (lo := lo) (up := up) (ab := ab) hn k (by omega)
        refine zv_callV C (c_pairUp K m o b a p bl ab n ver up hn ha 15 (by omega) k (msS ab n lo up k).1 0 (by omega) hpv (by decide)) (zw_V inX2_pairUp kX2_31 ⟨by decide, by decide⟩) [0, 1, 2, 3, 4] 0 rfl rfl rfl rfl (fun _ => Nat.le_refl _) rfl rfl (by decide) dzX2_most_61 (Nat.le_refl _) (Nat.le_refl _) rfl (fun _ _ => ?_)
        generalize hr : pu ab n up 15 k (msS ab n lo up k).1 0 = r at e ⊢
        obtain ⟨r1, P2, T2⟩ := r
        refine zv_to C rfl rfl (ws' := wM K m o b a p bl ab n ver (fun j => oI (P2 j)) (nI up) (nI T2)) rfl ?_
        refine zv_go C okX2_most [31] 40 ?_
        refine ⟨fun h3 => ?_, fun h3 => ?_⟩
        · rw [bI_0] at h3
          have h3 : r1 = false := h3
          subst h3
          refine zv_to C (lv' := [(0, .ref m), (1, .int (nI lo)), (2, .int (nI up)), (3, .int (nI (msS ab n lo up (k + 1)).2)), (4, .int (nI (k + 1)))]) (by rw [e, ← nI_1]; rfl) rfl (ws' := wM K m o b a p bl ab n ver (fun j => oI ((msS ab n lo up (k + 1)).1 j)) (nI up) (nI T2)) (by rw [e]) (ih (k + 1) _ (by omega))
        · rw [bI_1] at h3
          have h3 : r1 = true := h3
          subst h3
          refine zv_to C (lv' := [(0, .ref m), (1, .int (nI lo)), (2, .int (nI up)), (3, .int (nI (msS ab n lo up (k + 1)).2)), (4, .int (nI (k + 1)))]) (by rw [e, ← nI_1 k]; show _ = [_, _, _, (3, Value.int (nI ((msS ab n lo up k).2 + 1))), _]; rw [← nI_1]; rfl) rfl (ws' := wM K m o b a p bl ab n ver (fun j => oI ((msS ab n lo up (k + 1)).1 j)) (nI up) (nI T2)) (by rw [e]) (ih (k + 1) _ (by omega))
  have loop1 : ∀ mm k (f : Nat → Int32), k + mm = 14 → (∀ j, j < k → f j = -1) → zv_V x (gz K (zq 16 0 0 368) 5 cX2_most yX2_most.cls) 7 [(0, .ref m), (1, .int (nI lo)), (2, .int (nI up)), (3, .int (nI k))] [] (wM K m o b a p bl ab n ver f (nI up) q.2.2) 0 0 := by
    intro mm
    induction mm with
    | zero =>
      intro k f hk hf
      have e : k = 14 := by omega
      subst e
      refine zv_exI C 4 (fun j => oI ((fun _ => none : Nat → Option Nat) j)) rfl (fun j hj => by rw [hf j hj]; rfl) ?_
      refine zv_go C okX2_most [31] 20 ?_
      refine ⟨fun _ => ?_, fun h => absurd (by decide) h⟩
      exact zv_to C rfl rfl rfl (loop2 n 0 q.2.2 (by omega))
    | succ mm ih =>
      intro k f hk hf
      refine zv_go C okX2_most [7] 30 ?_
      refine ⟨fun h => absurd h (nI_ge (b := 14) (by omega) (by omega)), fun _ => ⟨rfl, ⟨rfl, rfl⟩, vp_in_nI (by omega) (by decide), ?_⟩⟩
      refine zv_to C (lv' := [(0, .ref m), (1, .int (nI lo)), (2, .int (nI up)), (3, .int (nI (k + 1)))]) (by rw [← nI_1]; rfl) rfl rfl (ih (k + 1) _ (by omega) ?_)
      intro j hj
      rw [nI_clamp (by omega)]
      by_cases e : j = k
      · rw [e, pk_us]
      · rw [pk_un e]; exact hf j (by omega)
  refine zv_go C okX2_most [7] 20 ?_
  refine ⟨rfl, ?_⟩
  exact loop1 14 0 _ rfl (fun j hj => absurd hj (Nat.not_lt_zero _))
def wdt (ab : Nat → Nat) (n s : Nat) : Int32 := nI (npc 14 s) - nI (mst ab n s s)
set_option maxHeartbeats 4000000 in
set_option maxRecDepth 100000 in
theorem c_widthOf (K : zK) (m o b a p : Nat) (bl ab : Nat → Nat) (n : Nat) (ver : Int32) (q : zS) {s : Nat} (hs : s < 2 ^ 14) (hn : n ≤ 14) (ha : ∀ j, ab j < 2 ^ 14) :
    zM (S := zS) K yX2_widthOf cX2_widthOf 2 (some .int) (zq 17 0 0 392) [.ref m, .int (nI s)] (wM K m o b a p bl ab n ver q.1 q.2.1 q.2.2) (fun _ => True) (fun _ => some (.int (wdt ab n s))) (fun u => wM K m o b a p bl ab n ver u.1 u.2.1 u.2.2) := by
  refine zo (by decide) (Nat.le_of_ble_eq_true rfl) fun x C R _ => ?_
  refine zv_go C okX2_widthOf [] 1 ?_
  refine zv_callS C (c_bitCount K hs) (zw_S inJ6_bitCount_0f7a4 kX2_35 ⟨by decide, by decide⟩) [] rfl rfl (fun _ => Nat.le_refl _) (rest := []) rfl rfl (Nat.le_of_ble_eq_true rfl) dzX2_widthOf_1 (by decide) (by decide) rfl (fun _ _ => ?_)
  refine zv_to C rfl rfl (ws' := wM K m o b a p bl ab n ver q.1 q.2.1 q.2.2) rfl ?_
  refine zv_go C okX2_widthOf [] 3 ?_
  refine zv_callV C (c_most K m o b a p bl ab n ver q (lo := s) (up := s) (Nat.lt_trans hs (by decide)) hn ha) (zw_V inX2_most kX2_41 ⟨by decide, by decide⟩) [0, 1, 2, 3, 4] 0 rfl rfl rfl rfl (fun _ => Nat.le_refl _) (rest := [.int (nI (npc 14 s))]) rfl rfl (Nat.le_of_ble_eq_true rfl) dzX2_widthOf_7 (by decide) (by decide) rfl (fun u _ => ?_)
  refine zv_go C okX2_widthOf [] 3 ?_
  exact zr R u [0, 1, 2, 3, 4] (some (.int _)) _ rfl rfl trivial rfl rfl (Nat.le_refl _) (Nat.le_refl _) dzX2_widthOf_11
end
section
/-! WIDEST APART: choose, asSet -/
abbrev wW (K : zK) (w m o b a p : Nat) (bl ab : Nat → Nat) (n : Nat) (ver : Int32) (q : zS) (ch seen : Int32) : va_W := (w, .inr (7, [.ref o, .ref m, .int ch, .int seen])) :: wM K m o b a p bl ab n ver q.1 q.2.1 q.2.2
/-- the run from thing k - 1 down: what is open, how many are wanted, what is chosen -/
def chS (bl ab : Nat → Nat) (n : Nat) : Nat → Nat → Int32 → Nat → Nat
  | 0, _, _, ch => ch
  | k + 1, op, wn, ch => if op.testBit k = true then (if wdt ab n (ndf op (2 ^ k)) < wn then chS bl ab n k (ndf (ndf op (2 ^ k)) (bl k ||| ab k)) (wn + (-1)) (ch ||| 2 ^ k) else chS bl ab n k (ndf op (2 ^ k)) wn ch) else chS bl ab n k op wn ch
def capt (bl ab : Nat → Nat) (n : Nat) : Nat := chS bl ab n n (2 ^ n - 1) (wdt ab n (2 ^ n - 1)) 0
theorem nb_all_lt {n : Nat} (hn : n ≤ 14) : 2 ^ n - 1 < 2 ^ 14 := by
  have h : 2 ^ n ≤ 2 ^ 14 := Nat.pow_le_pow_right (by decide) hn
  have h0 : 0 < 2 ^ n := Nat.two_pow_pos n
  omega
set_option maxHeartbeats 4000000 in
set_option maxRecDepth 100000 in
theorem c_choose (K : zK) (w m o b a p : Nat) (bl ab : Nat → Nat) (n : Nat) (ver : Int32) (q : zS) (ch seen : Int32) (hn : n ≤ 14) (ha : ∀ j, ab j < 2 ^ 14) :
    zM (S := zS) K yX7_choose cX7_choose 4 none (zq 18 0 0 413) [.ref w] (wW K w m o b a p bl ab n ver q ch seen) (fun _ => True) (fun _ => none) (fun u => wW K w m o b a p bl ab n ver u (nI (capt bl ab n)) seen) := by
  refine zo (by decide) (Nat.le_of_ble_eq_true rfl) fun x C R _ => ?_
  have loop : ∀ k (op : Nat) (wn : Int32) (c : Nat) (q : zS), k ≤ n → op < 2 ^ 14 → chS bl ab n k op wn c = capt bl ab n → zv_V x (gz K (zq 18 0 0 413) 4 cX7_choose yX7_choose.cls) 32 [(0, .ref w), (1, .int (nI op)), (2, .int wn), (3, .int (nI k - 1))] [] (wW K w m o b a p bl ab n ver q (nI c) seen) 0 0 := by
    intro k
    induction k with
    | zero =>
      intro op wn c q _ _ he
      refine zv_go C okX7_choose [] 20 ?_
      refine ⟨fun _ => ?_, fun h => absurd (by decide) h⟩
      exact zr R q [0, 1, 2, 3, 4, 5] none _ rfl (by rw [← he] <;> rfl) trivial rfl rfl (Nat.le_refl _) (Nat.le_refl _) dzX7_choose_109
    | succ k ih =>
      intro op wn c q hk hop he
      have ek : nI (k + 1) - 1 = nI k := nI_pred k
      have ek2 : nI k + (-1) = nI k - 1 := by rw [Int32.sub_eq_add_neg]
      refine zv_to C (lv' := [(0, .ref w), (1, .int (nI op)), (2, .int wn), (3, .int (nI k))]) (by rw [ek]) rfl rfl ?_
      have hop1 : ndf op (2 ^ k) < 2 ^ 14 := Nat.lt_of_le_of_lt (ndf_le _ _) hop
      refine zv_go C okX7_choose [32] 30 ?_
      refine ⟨fun h => absurd h (nI_pos (by omega)), fun _ => ⟨fun h => ?_, fun h => ⟨rfl, ?_⟩⟩⟩
      · rw [nb_t0 (Nat.lt_trans hop (by decide)) (by omega)] at h
        unfold chS at he
        rw [if_neg (by rw [h]; decide)] at he
        exact zv_to C (lv' := [(0, .ref w), (1, .int (nI op)), (2, .int wn), (3, .int (nI k - 1))]) (by rw [← ek2] <;> rfl) rfl rfl (ih op wn c q (by omega) hop he)
      · rw [nb_t1 (Nat.lt_trans hop (by decide)) (by omega)] at h
        unfold chS at he
        rw [if_pos h] at he
        refine zv_to C (lv' := [(0, .ref w), (1, .int (nI (ndf op (2 ^ k)))), (2, .int wn), (3, .int (nI k))]) (by rw [← nb_not, ← nb_1s k (by omega)] <;> rfl) (st' := [.int (nI (ndf op (2 ^ k))), .ref m]) (by rw [← nb_not, ← nb_1s k (by omega)] <;> rfl) rfl ?_
        refine zv_callV C (c_widthOf K m o b a p bl ab n ver q hop1 hn ha) (zw_V inX2_widthOf kX7_38 ⟨by decide, by decide⟩) [1, 2, 3, 4, 5] 1 rfl rfl rfl rfl (fun _ => Nat.le_refl _) rfl rfl (by decide) dzX7_choose_57 (by decide) (by decide) rfl (fun u _ => ?_)
        refine zv_to C rfl rfl (ws' := wW K w m o b a p bl ab n ver u (nI c) seen) rfl ?_
        refine zv_go C okX7_choose [32] 50 ?_
        refine ⟨fun h2 => ?_, fun h2 => ⟨rfl, rfl, rfl, rfl, ⟨rfl, rfl⟩, vp_in_nI (by omega) (by decide), rfl, rfl, ⟨rfl, rfl⟩, vp_in_nI (by omega) (by decide), ?_⟩⟩
        · rw [if_neg (Int32.not_lt.mpr h2)] at he
          exact zv_to C (lv' := [(0, .ref w), (1, .int (nI (ndf op (2 ^ k)))), (2, .int wn), (3, .int (nI k - 1))]) (by rw [← ek2] <;> rfl) rfl rfl (ih _ wn c u (by omega) hop1 he)
        · rw [if_pos (Int32.not_le.mp h2)] at he
          refine zv_to C (lv' := [(0, .ref w), (1, .int (nI (ndf (ndf op (2 ^ k)) (bl k ||| ab k)))), (2, .int (wn + (-1))), (3, .int (nI k - 1))]) ?_ rfl (ws' := wW K w m o b a p bl ab n ver u (nI (c ||| 2 ^ k)) seen) ?_ (ih _ _ _ u (by omega) (Nat.lt_of_le_of_lt (ndf_le _ _) hop1) he)
          · have ec : (nI k).toNatClampNeg = k := nI_clamp (by omega)
            show [(0, Value.ref w), (1, .int (nI (ndf op (2 ^ k)) &&& ((nI (bl (nI k).toNatClampNeg) ||| nI (ab (nI k).toNatClampNeg)) ^^^ (-1)))), (2, .int (wn + (-1))), (3, .int (nI k + (-1)))] = _
            rw [ec, nb_or, nb_not, ek2]
          · rw [← nb_or, ← nb_1s k (by omega)]
            rfl
  refine zv_go C okX7_choose [] 2 ?_
  refine ⟨rfl, ?_⟩
  refine zv_callV C (c_all K o b a bl ab n ver hn) (zw_V inX4_all kX7_34 ⟨by decide, by decide⟩) [2, 3, 4] 2 rfl rfl rfl rfl (fun _ => Nat.le_refl _) rfl rfl (by decide) dzX7_choose_4 (by decide) (by decide) rfl (fun _ _ => ?_)
  refine zv_to C rfl rfl (ws' := wW K w m o b a p bl ab n ver q ch seen) rfl ?_
  refine zv_go C okX7_choose [] 4 ?_
  refine ⟨rfl, ?_⟩
  refine zv_callV C (c_widthOf K m o b a p bl ab n ver q (nb_all_lt hn) hn ha) (zw_V inX2_widthOf kX7_38 ⟨by decide, by decide⟩) [1, 2, 3, 4, 5] 1 rfl rfl rfl rfl (fun _ => Nat.le_refl _) rfl rfl (by decide) dzX7_choose_13 (by decide) (by decide) rfl (fun u _ => ?_)
  refine zv_to C rfl rfl (ws' := wW K w m o b a p bl ab n ver u ch seen) rfl ?_
  refine zv_go C okX7_choose [32] 20 ?_
  refine ⟨rfl, rfl, rfl, ?_⟩
  exact loop n (2 ^ n - 1) (wdt ab n (2 ^ n - 1)) 0 u (Nat.le_refl _) (nb_all_lt hn) rfl
set_option maxHeartbeats 4000000 in
set_option maxRecDepth 100000 in
theorem c_asSet (K : zK) (w m o b a p : Nat) (bl ab : Nat → Nat) (n : Nat) (ver : Int32) (q : zS) (ch seen : Int32) (hn : n ≤ 14) (ha : ∀ j, ab j < 2 ^ 14) :
    zM (S := zS) K yX7_asSet cX7_asSet 1 (some .int) (zq 19 0 0 436) [.ref w] (wW K w m o b a p bl ab n ver q ch seen) (fun _ => True) (fun _ => some (.int (if seen = ver then ch else nI (capt bl ab n)))) (fun u => wW K w m o b a p bl ab n ver u (if seen = ver then ch else nI (capt bl ab n)) ver) := by
  refine zo (by decide) (Nat.le_of_ble_eq_true rfl) fun x C R _ => ?_
  refine zv_go C okX7_asSet [] 20 ?_
  refine ⟨rfl, rfl, rfl, fun h => ⟨rfl, ?_⟩, fun h => ⟨rfl, rfl, rfl, ?_⟩⟩
  · have h : seen = ver := h
    subst h
    exact zr R q [0, 1, 2, 3, 4, 5] (some (.int _)) (wW K w m o b a p bl ab n seen q ch seen) (by rw [if_pos rfl]) (by rw [if_pos rfl]) trivial rfl rfl (Nat.le_refl _) (Nat.le_refl _) dzX7_asSet_33
  · refine zv_callV C (c_choose K w m o b a p bl ab n ver q ch ver hn ha) (zw_V inX7_choose kX7_28 ⟨by decide, by decide⟩) [0, 1, 2, 3, 4, 5] 0 rfl rfl rfl rfl (fun _ => Nat.le_refl _) rfl rfl (by decide) dzX7_asSet_26 (by decide) (by decide) rfl (fun u _ => ?_)
    refine zv_to C rfl rfl (ws' := wW K w m o b a p bl ab n ver u (nI (capt bl ab n)) ver) rfl ?_
    refine zv_go C okX7_asSet [] 20 ?_
    refine ⟨rfl, ?_⟩
    exact zr R u [0, 1, 2, 3, 4, 5] (some (.int _)) _ (by rw [if_neg h]) (by rw [if_neg h]) trivial rfl rfl (Nat.le_refl _) (Nat.le_refl _) dzX7_asSet_33
end
section
/-! PARTS: leastGoodLink, link, nextOf -/
abbrev wP (K : zK) (t m o b a p y : Nat) (bl ab : Nat → Nat) (n : Nat) (ver : Int32) (q : zS) (nf : Nat → Int32) (seen : Int32) : va_W := [(t, .inr (5, [.ref o, .ref m, .ref y, .int seen])), (m, .inr (2, [.ref o, .ref p, .int q.2.1, .int q.2.2])), (o, .inr (4, [.ref b, .ref a, .int (nI n), .int ver])), (b, .inl (cI K, 14, .inl (fun j => nI (bl j)))), (a, .inl (cI K, 14, .inl (fun j => nI (ab j)))), (p, .inl (cI K, 14, .inl q.1)), (y, .inl (cI K, 14, .inl nf))]
def lgl (ab : Nat → Nat) (n v op : Nat) (due : Int32) : Nat → Option Nat
  | 0 => none
  | k + 1 => if (ab v &&& op).testBit (n - (k + 1)) = true ∧ nI (mst ab n (nhi (2 ^ n - 1) (v + 1)) (ndf op (2 ^ (n - (k + 1))))) = due - 1 then some (n - (k + 1)) else lgl ab n v op due k
theorem lgl_lt {ab : Nat → Nat} {n v op : Nat} {due : Int32} {u : Nat} : ∀ k, k ≤ n → lgl ab n v op due k = some u → u < n
  | 0, _, h => by cases h
  | k + 1, hk, h => by
    unfold lgl at h
    split at h
    · cases h; omega
    · exact lgl_lt k (by omega) h
set_option maxHeartbeats 4000000 in
set_option maxRecDepth 100000 in
theorem c_leastGoodLink (K : zK) (t m o b a p y : Nat) (bl ab : Nat → Nat) (n : Nat) (ver : Int32) (q : zS) (nf : Nat → Int32) (seen : Int32) {v op : Nat} (due : Int32) (hv : v < 14) (hop : op < 2 ^ 14) (hn : n ≤ 14) (ha : ∀ j, ab j < 2 ^ 14) :
    zM (S := zS) K yX5_leastGoodLink cX5_leastGoodLink 6 (some .int) (zq 17 0 0 392) [.ref t, .int (nI v), .int (nI op), .int due] (wP K t m o b a p y bl ab n ver q nf seen) (fun _ => True) (fun _ => some (.int (oI (lgl ab n v op due n)))) (fun u => wP K t m o b a p y bl ab n ver u nf seen) := by
  refine zo (by decide) (Nat.le_of_ble_eq_true rfl) fun x C R _ => ?_
  have hlt : nhi (2 ^ n - 1) (v + 1) < 2 ^ 32 := by
    have h1 : nhi (2 ^ n - 1) (v + 1) ≤ 2 ^ n - 1 := by
      unfold nhi
      rw [Nat.shiftLeft_eq, Nat.shiftRight_eq_div_pow]
      exact Nat.div_mul_le_self _ _
    exact Nat.lt_of_le_of_lt h1 (Nat.lt_trans (nb_all_lt hn) (by decide))
  have loop : ∀ mm (q : zS), mm ≤ n → lgl ab n v op due mm = lgl ab n v op due n → zv_V x (gz K (zq 17 0 0 392) 6 cX5_leastGoodLink yX5_leastGoodLink.cls) 19 [(0, .ref t), (1, .int (nI v)), (2, .int (nI op)), (3, .int due), (4, .int (nI (nhi (2 ^ n - 1) (v + 1)))), (5, .int (nI (n - mm)))] [] (wP K t m o b a p y bl ab n ver q nf seen) 0 0 := by
    intro mm
    induction mm with
    | zero =>
      intro q _ he
      refine zv_go C okX5_leastGoodLink [] 20 ?_
      refine ⟨rfl, rfl, fun _ => ?_, fun h => absurd (nI_le (by omega) (by omega)) h⟩
      exact zr R q [0, 1, 2, 3, 4, 5, 6] (some (.int (-1))) _ (by rw [← he] <;> rfl) rfl trivial rfl rfl (Nat.le_refl _) (Nat.le_refl _) dzX5_leastGoodLink_83
    | succ mm ih =>
      intro q hmm he
      have hs : ab v &&& op < 2 ^ 32 := Nat.lt_of_le_of_lt Nat.and_le_left (Nat.lt_trans (ha v) (by decide))
      have enx : nI (n - (mm + 1)) + 1 = nI (n - mm) := by rw [nI_1]; congr 1; omega
      refine zv_go C okX5_leastGoodLink [19] 40 ?_
      refine ⟨rfl, rfl, fun h => absurd h (nI_ge (by omega) (by omega)), fun _ => ⟨rfl, rfl, ⟨rfl, rfl⟩, vp_in_nI hv (by decide), fun h => ?_, fun h => ⟨rfl, ?_⟩⟩⟩
      · rw [nI_clamp (by omega), nb_and, nb_t0 hs (by omega)] at h
        rw [lgl, if_neg (fun z => by rw [z.1] at h; cases h)] at he
        exact zv_to C (lv' := [(0, .ref t), (1, .int (nI v)), (2, .int (nI op)), (3, .int due), (4, .int (nI (nhi (2 ^ n - 1) (v + 1)))), (5, .int (nI (n - mm)))]) (by rw [← enx] <;> rfl) rfl rfl (ih q (by omega) he)
      · rw [nI_clamp (by omega), nb_and, nb_t1 hs (by omega)] at h
        refine zv_to C rfl (st' := [.int (nI (ndf op (2 ^ (n - (mm + 1))))), .int (nI (nhi (2 ^ n - 1) (v + 1))), .ref m]) (by rw [← nb_not, ← nb_1s _ (by omega)] <;> rfl) rfl ?_
        refine zv_callV C (c_most K m o b a p bl ab n ver q (lo := nhi (2 ^ n - 1) (v + 1)) (up := ndf op (2 ^ (n - (mm + 1)))) hlt hn ha) (zw_V inX2_most kX5_39 ⟨by decide, by decide⟩) [1, 2, 3, 4, 5] 1 rfl rfl rfl rfl (fun _ => Nat.le_refl _) rfl rfl (by decide) dzX5_leastGoodLink_64 (by decide) (by decide) rfl (fun u _ => ?_)
        refine zv_to C rfl rfl (ws' := wP K t m o b a p y bl ab n ver u nf seen) rfl ?_
        refine zv_go C okX5_leastGoodLink [19] 40 ?_
        refine ⟨fun h2 => ?_, fun h2 => ?_⟩
        · rw [lgl, if_neg (fun z => h2 z.2)] at he
          exact zv_to C (lv' := [(0, .ref t), (1, .int (nI v)), (2, .int (nI op)), (3, .int due), (4, .int (nI (nhi (2 ^ n - 1) (v + 1)))), (5, .int (nI (n - mm)))]) (by rw [← enx] <;> rfl) rfl rfl (ih u (by omega) he)
        · rw [lgl, if_pos ⟨h, h2⟩] at he
          exact zr R u [0, 1, 2, 3, 4, 5, 6] (some (.int _)) _ (by rw [← he] <;> rfl) rfl trivial rfl rfl (Nat.le_refl _) (Nat.le_refl _) dzX5_leastGoodLink_75
  refine zv_go C okX5_leastGoodLink [] 2 ?_
  refine ⟨rfl, ?_⟩
  refine zv_callV C (c_all K o b a bl ab n ver hn) (zw_V inX4_all kX5_35 ⟨by decide, by decide⟩) [2, 3, 4] 2 rfl rfl rfl rfl (fun _ => Nat.le_refl _) rfl rfl (by decide) dzX5_leastGoodLink_4 (by decide) (by decide) rfl (fun _ _ => ?_)
  refine zv_to C rfl rfl (ws' := wP K t m o b a p y bl ab n ver q nf seen) rfl ?_
  refine zv_go C okX5_leastGoodLink [19] 20 ?_
  refine zv_to C (lv' := [(0, .ref t), (1, .int (nI v)), (2, .int (nI op)), (3, .int due), (4, .int (nI (nhi (2 ^ n - 1) (v + 1)))), (5, .int (nI (n - n)))]) ?_ rfl rfl (loop n q (Nat.le_refl _) rfl)
  rw [Nat.sub_self, ← nb_hi _ _ (by omega), ← nI_1]
  rfl
/-- the run over things: what is open, how many links are due, the links -/
def lkS (ab : Nat → Nat) (n : Nat) : Nat → Nat × Int32 × (Nat → Option Nat)
  | 0 => (2 ^ n - 1, nI (mst ab n (2 ^ n - 1) (2 ^ n - 1)), fun _ => none)
  | k + 1 => match lgl ab n k (lkS ab n k).1 (lkS ab n k).2.1 n with
    | none => ((lkS ab n k).1, (lkS ab n k).2.1, va_up (lkS ab n k).2.2 k none)
    | some u => (ndf (lkS ab n k).1 (2 ^ u), (lkS ab n k).2.1 + (-1), va_up (lkS ab n k).2.2 k (some u))
theorem lkS_lt {ab : Nat → Nat} {n : Nat} (hn : n ≤ 14) : ∀ k, (lkS ab n k).1 < 2 ^ 14
  | 0 => nb_all_lt hn
  | k + 1 => by
    have h := lkS_lt (ab := ab) hn k
    unfold lkS
    split
    · exact h
    · exact Nat.lt_of_le_of_lt (ndf_le _ _) h
set_option maxHeartbeats 4000000 in
set_option maxRecDepth 100000 in
theorem c_link (K : zK) (t m o b a p y : Nat) (bl ab : Nat → Nat) (n : Nat) (ver : Int32) (q : zS) (nf : Nat → Int32) (seen : Int32) (hn : n ≤ 14) (ha : ∀ j, ab j < 2 ^ 14) :
    zM (S := zS × (Nat → Int32)) K yX5_link cX5_link 4 none (zq 18 0 0 417) [.ref t] (wP K t m o b a p y bl ab n ver q nf seen) (fun u => ∀ j, j < n → u.2 j = oI ((lkS ab n n).2.2 j)) (fun _ => none) (fun u => wP K t m o b a p y bl ab n ver u.1 u.2 seen) := by
  refine zo (by decide) (Nat.le_of_ble_eq_true rfl) fun x C R _ => ?_
  have loop : ∀ mm k (q : zS) (f : Nat → Int32), k + mm = n → (∀ j, j < k → f j = oI ((lkS ab n k).2.2 j)) → zv_V x (gz K (zq 18 0 0 417) 4 cX5_link yX5_link.cls) 20 [(0, .ref t), (1, .int (nI (lkS ab n k).1)), (2, .int (lkS ab n k).2.1), (3, .int (nI k))] [] (wP K t m o b a p y bl ab n ver q f seen) 0 0 := by
    intro mm
    induction mm with
    | zero =>
      intro k q f hk hf
      have e : k = n := by omega
      subst e
      refine zv_go C okX5_link [] 20 ?_
      refine ⟨rfl, rfl, fun _ => ?_, fun h => absurd (nI_le (Nat.le_refl _) (by omega)) h⟩
      exact zr R (q, f) [0, 1, 2, 3, 4, 5, 6] none _ rfl rfl hf rfl rfl (Nat.le_refl _) (Nat.le_refl _) dzX5_link_76
    | succ mm ih =>
      intro k q f hk hf
      refine zv_go C okX5_link [20] 30 ?_
      refine ⟨rfl, rfl, fun h => absurd h (nI_ge (by omega) (by omega)), fun _ => ⟨rfl, ?_⟩⟩
      refine zv_callV C (c_leastGoodLink K t m o b a p y bl ab n ver q f seen (v := k) (op := (lkS ab n k).1) (lkS ab n k).2.1 (by omega) (lkS_lt hn k) hn ha) (zw_V inX5_leastGoodLink kX5_48 ⟨by decide, by decide⟩) [0, 1, 2, 3, 4, 5, 6] 0 rfl rfl rfl rfl (fun _ => Nat.le_refl _) (rest := [.int (nI k), .ref y]) rfl rfl (Nat.le_of_ble_eq_true rfl) dzX5_link_40 (by decide) (by decide) rfl (fun u _ => ?_)
      refine zv_to C rfl rfl (ws' := wP K t m o b a p y bl ab n ver u f seen) rfl ?_
      refine zv_go C okX5_link [20] 50 ?_
      have ec : (nI k).toNatClampNeg = k := nI_clamp (by omega)
      generalize hr : lgl ab n k (lkS ab n k).1 (lkS ab n k).2.1 n = r
      have hf2 : ∀ j, j < k + 1 → upd f (nI k).toNatClampNeg (oI r) j = oI (va_up (lkS ab n k).2.2 k r j) := by
        intro j hj
        rw [ec]
        unfold va_up
        by_cases e : j = k
        · rw [e, pk_us, if_pos rfl]
        · rw [pk_un e, if_neg e]; exact hf j (by omega)
      refine ⟨⟨rfl, rfl⟩, vp_in_nI (by omega) (by decide), rfl, ⟨rfl, rfl⟩, vp_in_nI (by omega) (by decide), fun h => ?_, fun h => ⟨rfl, ⟨rfl, rfl⟩, vp_in_nI (by omega) (by decide), ?_⟩⟩
      · have h : upd f (nI k).toNatClampNeg (oI r) (nI k).toNatClampNeg = -1 := h
        rw [pk_us] at h
        have hn0 : r = none := by
          cases r with
          | none => rfl
          | some j => exact absurd h (nI_m1 (Nat.lt_of_lt_of_le (lgl_lt n (Nat.le_refl _) hr) (by omega)))
        subst hn0
        have e : lkS ab n (k + 1) = ((lkS ab n k).1, (lkS ab n k).2.1, va_up (lkS ab n k).2.2 k none) := by
          conv => lhs; unfold lkS
          rw [hr]
        refine zv_to C (lv' := [(0, .ref t), (1, .int (nI (lkS ab n (k + 1)).1)), (2, .int (lkS ab n (k + 1)).2.1), (3, .int (nI (k + 1)))]) (by rw [e, ← nI_1] <;> rfl) rfl rfl (ih (k + 1) u _ (by omega) ?_)
        rw [e]
        exact hf2
      · have h : ¬ upd f (nI k).toNatClampNeg (oI r) (nI k).toNatClampNeg = -1 := h
        rw [pk_us] at h
        cases r with
        | none => exact absurd rfl h
        | some j =>
          have hj := lgl_lt n (Nat.le_refl _) hr
          have e : lkS ab n (k + 1) = (ndf (lkS ab n k).1 (2 ^ j), (lkS ab n k).2.1 + (-1), va_up (lkS ab n k).2.2 k (some j)) := by
            conv => lhs; unfold lkS
            rw [hr]
          refine zv_to C (lv' := [(0, .ref t), (1, .int (nI (lkS ab n (k + 1)).1)), (2, .int (lkS ab n (k + 1)).2.1), (3, .int (nI (k + 1)))]) ?_ rfl rfl (ih (k + 1) u _ (by omega) ?_)
          · show [(0, Value.ref t), (1, .int (nI (lkS ab n k).1 &&& ((1 : Int32) <<< (upd f (nI k).toNatClampNeg (oI (some j)) (nI k).toNatClampNeg &&& 31) ^^^ (-1)))), (2, .int ((lkS ab n k).2.1 + (-1))), (3, .int (nI k + 1))] = _
            rw [pk_us, e]
            show [(0, Value.ref t), (1, .int (nI (lkS ab n k).1 &&& ((1 : Int32) <<< (nI j &&& 31) ^^^ (-1)))), (2, .int ((lkS ab n k).2.1 + (-1))), (3, .int (nI k + 1))] = _
            rw [nb_1s j (by omega), nb_not, nI_1]
          · rw [e]
            exact hf2
  refine zv_go C okX5_link [] 2 ?_
  refine ⟨rfl, ?_⟩
  refine zv_callV C (c_all K o b a bl ab n ver hn) (zw_V inX4_all kX5_35 ⟨by decide, by decide⟩) [2, 3, 4] 2 rfl rfl rfl rfl (fun _ => Nat.le_refl _) rfl rfl (by decide) dzX5_link_4 (by decide) (by decide) rfl (fun _ _ => ?_)
  refine zv_to C rfl rfl (ws' := wP K t m o b a p y bl ab n ver q nf seen) rfl ?_
  refine zv_go C okX5_link [] 5 ?_
  refine ⟨rfl, ?_⟩
  refine zv_callV C (c_most K m o b a p bl ab n ver q (lo := 2 ^ n - 1) (up := 2 ^ n - 1) (Nat.lt_trans (nb_all_lt hn) (by decide)) hn ha) (zw_V inX2_most kX5_39 ⟨by decide, by decide⟩) [1, 2, 3, 4, 5] 1 rfl rfl rfl rfl (fun _ => Nat.le_refl _) rfl rfl (by decide) dzX5_link_14 (by decide) (by decide) rfl (fun u _ => ?_)
  refine zv_to C rfl rfl (ws' := wP K t m o b a p y bl ab n ver u nf seen) rfl ?_
  refine zv_go C okX5_link [20] 20 ?_
  exact loop n 0 u nf (by omega) (fun j hj => absurd hj (Nat.not_lt_zero _))
set_option maxHeartbeats 4000000 in
set_option maxRecDepth 100000 in
theorem c_nextOf (K : zK) (t m o b a p y : Nat) (bl ab : Nat → Nat) (n : Nat) (ver : Int32) (q : zS) (nf : Nat → Int32) (seen : Int32) {v : Nat} (hv : v < n) (hn : n ≤ 14) (ha : ∀ j, ab j < 2 ^ 14) (hs : seen = ver → ∀ j, j < n → nf j = oI ((lkS ab n n).2.2 j)) :
    zM (S := zS × (Nat → Int32)) K yX5_nextOf cX5_nextOf 2 (some .int) (zq 19 0 0 440) [.ref t, .int (nI v)] (wP K t m o b a p y bl ab n ver q nf seen) (fun u => ∀ j, j < n → u.2 j = oI ((lkS ab n n).2.2 j)) (fun _ => some (.int (oI ((lkS ab n n).2.2 v)))) (fun u => wP K t m o b a p y bl ab n ver u.1 u.2 ver) := by
  refine zo (by decide) (Nat.le_of_ble_eq_true rfl) fun x C R _ => ?_
  have ec : (nI v).toNatClampNeg = v := nI_clamp (by omega)
  refine zv_go C okX5_nextOf [] 20 ?_
  refine ⟨rfl, rfl, rfl, fun h => ⟨rfl, ⟨rfl, rfl⟩, vp_in_nI (by omega) (by decide), ?_⟩, fun h => ⟨rfl, rfl, rfl, ?_⟩⟩
  · have h : seen = ver := h
    subst h
    exact zr R (q, nf) [0, 1, 2, 3, 4, 5, 6] (some (.int _)) _ (by rw [ec, hs rfl v hv]) rfl (hs rfl) rfl rfl (Nat.le_refl _) (Nat.le_refl _) dzX5_nextOf_35
  · refine zv_callV C (c_link K t m o b a p y bl ab n ver q nf ver hn ha) (zw_V inX5_link kX5_32 ⟨by decide, by decide⟩) [0, 1, 2, 3, 4, 5, 6] 0 rfl rfl rfl rfl (fun _ => Nat.le_refl _) rfl rfl (by decide) dzX5_nextOf_26 (by decide) (by decide) rfl (fun u hu => ?_)
    refine zv_to C rfl rfl (ws' := wP K t m o b a p y bl ab n ver u.1 u.2 ver) rfl ?_
    refine zv_go C okX5_nextOf [] 20 ?_
    refine ⟨rfl, ⟨rfl, rfl⟩, vp_in_nI (by omega) (by decide), ?_⟩
    exact zr R u [0, 1, 2, 3, 4, 5, 6] (some (.int _)) _ (by rw [ec, hu v hv]) rfl hu rfl rfl (Nat.le_refl _) (Nat.le_refl _) dzX5_nextOf_35
end
section
def tbX1_init : List zv_I := [(0, .aload_n 0, 1, (0, 0, 0, 0, 0, 0)), (1, .invokespecial 3, 4, (0, 0, 0, 0, 0, 0)), (4, .aload_n 0, 5, (0, 0, 0, 0, 0, 0)), (5, .bipush 14, 7, (0, 0, 0, 0, 14, 0)), (7, .newarray .int, 9, (0, 0, 0, 0, 0, 0)), (12, .aload_n 0, 13, (0, 0, 0, 0, 0, 0)), (13, .bipush 14, 15, (0, 0, 0, 0, 14, 0)), (15, .newarray .int, 17, (0, 0, 0, 0, 0, 0)), (20, .aload_n 0, 21, (0, 0, 0, 0, 0, 0)), (21, .iconst (-1), 22, (0, 0, 0, 0, (-1), 0)), (22, .putfield 18, 25, (0, 1, 4, 0, 0, 0)), (25, .aload_n 0, 26, (0, 0, 0, 0, 0, 0)), (26, .aload_n 1, 27, (0, 0, 0, 0, 0, 0)), (30, .return_, 31, (0, 0, 0, 0, 0, 0))]
theorem okX1_init : zv_ok 2 cX1_init RX1 zt vwCl tbX1_init = true := by decide +kernel
theorem dzX1_init_1 : decode cX1_init 1 = .ok (.invokespecial 3, 3) := by decide +kernel
theorem dzX1_init_7 : decode cX1_init 7 = .ok (.newarray .int, 2) := by decide +kernel
theorem dzX1_init_9 : decode cX1_init 9 = .ok (.putfield 9, 3) := by decide +kernel
theorem dzX1_init_15 : decode cX1_init 15 = .ok (.newarray .int, 2) := by decide +kernel
theorem dzX1_init_17 : decode cX1_init 17 = .ok (.putfield 15, 3) := by decide +kernel
theorem dzX1_init_27 : decode cX1_init 27 = .ok (.putfield 22, 3) := by decide +kernel
theorem dzX1_init_30 : decode cX1_init 30 = .ok (.return_, 1) := by decide +kernel
set_option maxRecDepth 100000 in
theorem inX1_init : Jvm.Cond.code yX1_init cX1_init 2 none ∈ zt := List.mem_filter.mpr ⟨List.mem_append_right _ (List.mem_of_getElem? (i := 84) rfl), rfl⟩
def tbX1_length : List zv_I := [(0, .aload_n 0, 1, (0, 0, 0, 0, 0, 0)), (1, .invokevirtual 26, 4, (0, 0, 0, 0, 0, 0)), (4, .aload_n 0, 5, (0, 0, 0, 0, 0, 0)), (5, .getfield 29, 8, (0, 1, 3, 0, 0, 0)), (8, .ireturn, 9, (0, 0, 0, 0, 0, 0))]
theorem okX1_length : zv_ok 1 cX1_length RX1 zt vwCl tbX1_length = true := by decide +kernel
theorem dzX1_length_1 : decode cX1_length 1 = .ok (.invokevirtual 26, 3) := by decide +kernel
theorem dzX1_length_8 : decode cX1_length 8 = .ok (.ireturn, 1) := by decide +kernel
set_option maxRecDepth 100000 in
theorem inX1_length : Jvm.Cond.code yX1_length cX1_length 1 ((some .int)) ∈ zt := List.mem_filter.mpr ⟨List.mem_append_right _ (List.mem_of_getElem? (i := 297) rfl), rfl⟩
def tbX1_thingAt : List zv_I := [(0, .aload_n 0, 1, (0, 0, 0, 0, 0, 0)), (1, .invokevirtual 26, 4, (0, 0, 0, 0, 0, 0)), (4, .iload_n 1, 5, (0, 0, 0, 0, 0, 0)), (5, .ifCond .lt 20, 8, (25, 0, 0, 0, 0, 0)), (8, .iload_n 1, 9, (0, 0, 0, 0, 0, 0)), (9, .aload_n 0, 10, (0, 0, 0, 0, 0, 0)), (10, .getfield 29, 13, (0, 1, 3, 0, 0, 0)), (13, .if_icmp .ge 12, 16, (25, 0, 0, 0, 0, 0)), (16, .aload_n 0, 17, (0, 0, 0, 0, 0, 0)), (17, .getfield 15, 20, (0, 1, 2, 0, 0, 0)), (20, .iload_n 1, 21, (0, 0, 0, 0, 0, 0)), (21, .iaload, 22, (5, 0, 0, 0, 0, 0)), (22, .goto 4, 25, (26, 0, 0, 0, 0, 0)), (25, .iconst (-1), 26, (0, 0, 0, 0, (-1), 0)), (26, .ireturn, 27, (0, 0, 0, 0, 0, 0))]
theorem okX1_thingAt : zv_ok 2 cX1_thingAt RX1 zt vwCl tbX1_thingAt = true := by decide +kernel
theorem dzX1_thingAt_1 : decode cX1_thingAt 1 = .ok (.invokevirtual 26, 3) := by decide +kernel
theorem dzX1_thingAt_26 : decode cX1_thingAt 26 = .ok (.ireturn, 1) := by decide +kernel
set_option maxRecDepth 100000 in
theorem inX1_thingAt : Jvm.Cond.code yX1_thingAt cX1_thingAt 2 ((some .int)) ∈ zt := List.mem_filter.mpr ⟨List.mem_append_right _ (List.mem_of_getElem? (i := 419) rfl), rfl⟩
def tbX1_refresh : List zv_I := [(0, .aload_n 0, 1, (0, 0, 0, 0, 0, 0)), (1, .getfield 18, 4, (0, 1, 4, 0, 0, 0)), (4, .aload_n 0, 5, (0, 0, 0, 0, 0, 0)), (5, .getfield 22, 8, (0, 1, 0, 0, 0, 0)), (8, .getfield 32, 11, (1, 4, 3, 0, 0, 0)), (11, .if_icmp .eq 22, 14, (33, 0, 0, 0, 0, 0)), (14, .aload_n 0, 15, (0, 0, 0, 0, 0, 0)), (15, .aload_n 0, 16, (0, 0, 0, 0, 0, 0)), (16, .getfield 22, 19, (0, 1, 0, 0, 0, 0)), (19, .getfield 32, 22, (1, 4, 3, 0, 0, 0)), (22, .putfield 18, 25, (0, 1, 4, 0, 0, 0)), (25, .aload_n 0, 26, (0, 0, 0, 0, 0, 0)), (26, .invokevirtual 37, 29, (0, 0, 0, 0, 0, 0)), (29, .aload_n 0, 30, (0, 0, 0, 0, 0, 0)), (30, .invokevirtual 40, 33, (0, 0, 0, 0, 0, 0)), (33, .return_, 34, (0, 0, 0, 0, 0, 0))]
theorem okX1_refresh : zv_ok 1 cX1_refresh RX1 zt vwCl tbX1_refresh = true := by decide +kernel
theorem dzX1_refresh_26 : decode cX1_refresh 26 = .ok (.invokevirtual 37, 3) := by decide +kernel
theorem dzX1_refresh_30 : decode cX1_refresh 30 = .ok (.invokevirtual 40, 3) := by decide +kernel
theorem dzX1_refresh_33 : decode cX1_refresh 33 = .ok (.return_, 1) := by decide +kernel
set_option maxRecDepth 100000 in
theorem inX1_refresh : Jvm.Cond.code yX1_refresh cX1_refresh 1 none ∈ zt := List.mem_filter.mpr ⟨List.mem_append_right _ (List.mem_of_getElem? (i := 301) rfl), rfl⟩
def tbX1_peelLayers : List zv_I := [(0, .aload_n 0, 1, (0, 0, 0, 0, 0, 0)), (1, .getfield 22, 4, (0, 1, 0, 0, 0, 0)), (4, .invokevirtual 43, 7, (0, 0, 0, 0, 0, 0)), (7, .istore_n 1, 8, (0, 0, 0, 0, 0, 0)), (8, .aload_n 0, 9, (0, 0, 0, 0, 0, 0)), (9, .iconst 0, 10, (0, 0, 0, 0, 0, 0)), (10, .putfield 29, 13, (0, 1, 3, 0, 0, 0)), (13, .iload_n 1, 14, (0, 0, 0, 0, 0, 0)), (14, .ifCond .eq 47, 17, (61, 0, 0, 0, 0, 0)), (17, .aload_n 0, 18, (0, 0, 0, 0, 0, 0)), (18, .getfield 29, 21, (0, 1, 3, 0, 0, 0)), (21, .bipush 14, 23, (0, 0, 0, 0, 14, 0)), (23, .if_icmp .ge 38, 26, (61, 0, 0, 0, 0, 0)), (26, .aload_n 0, 27, (0, 0, 0, 0, 0, 0)), (27, .iload_n 1, 28, (0, 0, 0, 0, 0, 0)), (28, .invokevirtual 47, 31, (0, 0, 0, 0, 0, 0)), (31, .istore_n 2, 32, (0, 0, 0, 0, 0, 0)), (32, .aload_n 0, 33, (0, 0, 0, 0, 0, 0)), (33, .getfield 9, 36, (0, 1, 1, 0, 0, 0)), (36, .aload_n 0, 37, (0, 0, 0, 0, 0, 0)), (37, .getfield 29, 40, (0, 1, 3, 0, 0, 0)), (40, .iload_n 2, 41, (0, 0, 0, 0, 0, 0)), (41, .iastore, 42, (4, 0, 0, 0, 0, 0)), (42, .aload_n 0, 43, (0, 0, 0, 0, 0, 0)), (43, .dup, 44, (0, 0, 0, 0, 0, 0)), (44, .getfield 29, 47, (0, 1, 3, 0, 0, 0)), (47, .iconst 1, 48, (0, 0, 0, 0, 1, 0)), (48, .iadd, 49, (0, 0, 0, 0, 0, 0)), (49, .putfield 29, 52, (0, 1, 3, 0, 0, 0)), (52, .iload_n 1, 53, (0, 0, 0, 0, 0, 0)), (53, .iload_n 2, 54, (0, 0, 0, 0, 0, 0)), (54, .iconst (-1), 55, (0, 0, 0, 0, (-1), 0)), (55, .ixor, 56, (0, 0, 0, 0, 0, 0)), (56, .iand, 57, (0, 0, 0, 0, 0, 0)), (57, .istore_n 1, 58, (0, 0, 0, 0, 0, 0)), (58, .goto (-45), 61, (13, 0, 0, 0, 0, 0)), (61, .return_, 62, (0, 0, 0, 0, 0, 0))]
theorem okX1_peelLayers : zv_ok 3 cX1_peelLayers RX1 zt vwCl tbX1_peelLayers = true := by decide +kernel
theorem dzX1_peelLayers_4 : decode cX1_peelLayers 4 = .ok (.invokevirtual 43, 3) := by decide +kernel
theorem dzX1_peelLayers_28 : decode cX1_peelLayers 28 = .ok (.invokevirtual 47, 3) := by decide +kernel
theorem dzX1_peelLayers_61 : decode cX1_peelLayers 61 = .ok (.return_, 1) := by decide +kernel
set_option maxRecDepth 100000 in
theorem inX1_peelLayers : Jvm.Cond.code yX1_peelLayers cX1_peelLayers 3 none ∈ zt := List.mem_filter.mpr ⟨List.mem_append_right _ (List.mem_of_getElem? (i := 305) rfl), rfl⟩
def tbX1_topsOf : List zv_I := [(0, .iconst 0, 1, (0, 0, 0, 0, 0, 0)), (1, .istore_n 2, 2, (0, 0, 0, 0, 0, 0)), (2, .iconst 0, 3, (0, 0, 0, 0, 0, 0)), (3, .istore_n 3, 4, (0, 0, 0, 0, 0, 0)), (4, .iload_n 3, 5, (0, 0, 0, 0, 0, 0)), (5, .aload_n 0, 6, (0, 0, 0, 0, 0, 0)), (6, .getfield 22, 9, (0, 1, 0, 0, 0, 0)), (9, .getfield 51, 12, (1, 4, 2, 0, 0, 0)), (12, .if_icmp .ge 37, 15, (49, 0, 0, 0, 0, 0)), (15, .iload_n 1, 16, (0, 0, 0, 0, 0, 0)), (16, .iconst 1, 17, (0, 0, 0, 0, 1, 0)), (17, .iload_n 3, 18, (0, 0, 0, 0, 0, 0)), (18, .ishl, 19, (0, 0, 0, 0, 0, 0)), (19, .iand, 20, (0, 0, 0, 0, 0, 0)), (20, .ifCond .eq 23, 23, (43, 0, 0, 0, 0, 0)), (23, .aload_n 0, 24, (0, 0, 0, 0, 0, 0)), (24, .getfield 22, 27, (0, 1, 0, 0, 0, 0)), (27, .getfield 54, 30, (1, 4, 1, 0, 0, 0)), (30, .iload_n 3, 31, (0, 0, 0, 0, 0, 0)), (31, .iaload, 32, (3, 0, 0, 0, 0, 0)), (32, .iload_n 1, 33, (0, 0, 0, 0, 0, 0)), (33, .iand, 34, (0, 0, 0, 0, 0, 0)), (34, .ifCond .ne 9, 37, (43, 0, 0, 0, 0, 0)), (37, .iload_n 2, 38, (0, 0, 0, 0, 0, 0)), (38, .iconst 1, 39, (0, 0, 0, 0, 1, 0)), (39, .iload_n 3, 40, (0, 0, 0, 0, 0, 0)), (40, .ishl, 41, (0, 0, 0, 0, 0, 0)), (41, .ior, 42, (0, 0, 0, 0, 0, 0)), (42, .istore_n 2, 43, (0, 0, 0, 0, 0, 0)), (43, .iinc 3 1, 46, (0, 0, 0, 0, 1, 0)), (46, .goto (-42), 49, (4, 0, 0, 0, 0, 0)), (49, .iload_n 2, 50, (0, 0, 0, 0, 0, 0)), (50, .ireturn, 51, (0, 0, 0, 0, 0, 0))]
theorem okX1_topsOf : zv_ok 4 cX1_topsOf RX1 zt vwCl tbX1_topsOf = true := by decide +kernel
theorem dzX1_topsOf_50 : decode cX1_topsOf 50 = .ok (.ireturn, 1) := by decide +kernel
set_option maxRecDepth 100000 in
theorem inX1_topsOf : Jvm.Cond.code yX1_topsOf cX1_topsOf 4 ((some .int)) ∈ zt := List.mem_filter.mpr ⟨List.mem_append_right _ (List.mem_of_getElem? (i := 313) rfl), rfl⟩
def tbX1_climb : List zv_I := [(0, .aload_n 0, 1, (0, 0, 0, 0, 0, 0)), (1, .getfield 22, 4, (0, 1, 0, 0, 0, 0)), (4, .invokevirtual 43, 7, (0, 0, 0, 0, 0, 0)), (7, .istore_n 1, 8, (0, 0, 0, 0, 0, 0)), (8, .iconst 0, 9, (0, 0, 0, 0, 0, 0)), (9, .istore_n 2, 10, (0, 0, 0, 0, 0, 0)), (10, .iload_n 2, 11, (0, 0, 0, 0, 0, 0)), (11, .aload_n 0, 12, (0, 0, 0, 0, 0, 0)), (12, .getfield 29, 15, (0, 1, 3, 0, 0, 0)), (15, .if_icmp .ge 46, 18, (61, 0, 0, 0, 0, 0)), (18, .aload_n 0, 19, (0, 0, 0, 0, 0, 0)), (19, .aload_n 0, 20, (0, 0, 0, 0, 0, 0)), (20, .getfield 9, 23, (0, 1, 1, 0, 0, 0)), (23, .aload_n 0, 24, (0, 0, 0, 0, 0, 0)), (24, .getfield 29, 27, (0, 1, 3, 0, 0, 0)), (27, .iconst 1, 28, (0, 0, 0, 0, 1, 0)), (28, .isub, 29, (0, 0, 0, 0, 0, 0)), (29, .iload_n 2, 30, (0, 0, 0, 0, 0, 0)), (30, .isub, 31, (0, 0, 0, 0, 0, 0)), (31, .iaload, 32, (4, 0, 0, 0, 0, 0)), (32, .iload_n 1, 33, (0, 0, 0, 0, 0, 0)), (33, .iand, 34, (0, 0, 0, 0, 0, 0)), (34, .invokevirtual 57, 37, (0, 0, 0, 0, 0, 0)), (37, .istore_n 3, 38, (0, 0, 0, 0, 0, 0)), (38, .aload_n 0, 39, (0, 0, 0, 0, 0, 0)), (39, .getfield 15, 42, (0, 1, 2, 0, 0, 0)), (42, .iload_n 2, 43, (0, 0, 0, 0, 0, 0)), (43, .iload_n 3, 44, (0, 0, 0, 0, 0, 0)), (44, .iastore, 45, (5, 0, 0, 0, 0, 0)), (45, .aload_n 0, 46, (0, 0, 0, 0, 0, 0)), (46, .getfield 22, 49, (0, 1, 0, 0, 0, 0)), (49, .getfield 54, 52, (1, 4, 1, 0, 0, 0)), (52, .iload_n 3, 53, (0, 0, 0, 0, 0, 0)), (53, .iaload, 54, (3, 0, 0, 0, 0, 0)), (54, .istore_n 1, 55, (0, 0, 0, 0, 0, 0)), (55, .iinc 2 1, 58, (0, 0, 0, 0, 1, 0)), (58, .goto (-48), 61, (10, 0, 0, 0, 0, 0)), (61, .return_, 62, (0, 0, 0, 0, 0, 0))]
theorem okX1_climb : zv_ok 4 cX1_climb RX1 zt vwCl tbX1_climb = true := by decide +kernel
theorem dzX1_climb_4 : decode cX1_climb 4 = .ok (.invokevirtual 43, 3) := by decide +kernel
theorem dzX1_climb_34 : decode cX1_climb 34 = .ok (.invokevirtual 57, 3) := by decide +kernel
theorem dzX1_climb_61 : decode cX1_climb 61 = .ok (.return_, 1) := by decide +kernel
set_option maxRecDepth 100000 in
theorem inX1_climb : Jvm.Cond.code yX1_climb cX1_climb 4 none ∈ zt := List.mem_filter.mpr ⟨List.mem_append_right _ (List.mem_of_getElem? (i := 317) rfl), rfl⟩
def tbX1_leastOf : List zv_I := [(0, .iconst 0, 1, (0, 0, 0, 0, 0, 0)), (1, .istore_n 2, 2, (0, 0, 0, 0, 0, 0)), (2, .iload_n 2, 3, (0, 0, 0, 0, 0, 0)), (3, .aload_n 0, 4, (0, 0, 0, 0, 0, 0)), (4, .getfield 22, 7, (0, 1, 0, 0, 0, 0)), (7, .getfield 51, 10, (1, 4, 2, 0, 0, 0)), (10, .if_icmp .ge 19, 13, (29, 0, 0, 0, 0, 0)), (13, .iload_n 1, 14, (0, 0, 0, 0, 0, 0)), (14, .iconst 1, 15, (0, 0, 0, 0, 1, 0)), (15, .iload_n 2, 16, (0, 0, 0, 0, 0, 0)), (16, .ishl, 17, (0, 0, 0, 0, 0, 0)), (17, .iand, 18, (0, 0, 0, 0, 0, 0)), (18, .ifCond .eq 5, 21, (23, 0, 0, 0, 0, 0)), (21, .iload_n 2, 22, (0, 0, 0, 0, 0, 0)), (22, .ireturn, 23, (0, 0, 0, 0, 0, 0)), (23, .iinc 2 1, 26, (0, 0, 0, 0, 1, 0)), (26, .goto (-24), 29, (2, 0, 0, 0, 0, 0)), (29, .iconst 0, 30, (0, 0, 0, 0, 0, 0)), (30, .ireturn, 31, (0, 0, 0, 0, 0, 0))]
theorem okX1_leastOf : zv_ok 3 cX1_leastOf RX1 zt vwCl tbX1_leastOf = true := by decide +kernel
theorem dzX1_leastOf_22 : decode cX1_leastOf 22 = .ok (.ireturn, 1) := by decide +kernel
theorem dzX1_leastOf_30 : decode cX1_leastOf 30 = .ok (.ireturn, 1) := by decide +kernel
set_option maxRecDepth 100000 in
theorem inX1_leastOf : Jvm.Cond.code yX1_leastOf cX1_leastOf 3 ((some .int)) ∈ zt := List.mem_filter.mpr ⟨List.mem_append_right _ (List.mem_of_getElem? (i := 321) rfl), rfl⟩
end
section
/-! LONGEST CHAIN -/
abbrev wL (K : zK) (c o b a y t : Nat) (bl ab : Nat → Nat) (n : Nat) (ver : Int32) (lf tf : Nat → Int32) (len seen : Int32) : va_W := [(c, .inr (1, [.ref o, .ref y, .ref t, .int len, .int seen])), (o, .inr (4, [.ref b, .ref a, .int (nI n), .int ver])), (b, .inl (cI K, 14, .inl (fun j => nI (bl j)))), (a, .inl (cI K, 14, .inl (fun j => nI (ab j)))), (y, .inl (cI K, 14, .inl lf)), (t, .inl (cI K, 14, .inl tf))]
def tpS (ab : Nat → Nat) (s : Nat) : Nat → Nat
  | 0 => 0
  | k + 1 => if s.testBit k = true ∧ ab k &&& s = 0 then tpS ab s k ||| 2 ^ k else tpS ab s k
theorem tpS_lt {ab : Nat → Nat} {s : Nat} : ∀ k, k ≤ 14 → tpS ab s k < 2 ^ 14
  | 0, _ => Nat.two_pow_pos 14
  | k + 1, h => by
    have h1 := tpS_lt (ab := ab) (s := s) k (by omega)
    unfold tpS
    split
    · exact nb_lt_or h1 (nb_lt_pow (by omega))
    · exact h1
set_option maxHeartbeats 4000000 in
set_option maxRecDepth 100000 in
theorem c_topsOf (K : zK) (c o b a y t : Nat) (bl ab : Nat → Nat) (n : Nat) (ver : Int32) (lf tf : Nat → Int32) (len seen : Int32) {s : Nat} (hs : s < 2 ^ 14) (hn : n ≤ 14) (ha : ∀ j, ab j < 2 ^ 14) :
    zD K yX1_topsOf cX1_topsOf 4 (some .int) (zq 0 0 0 0) [.ref c, .int (nI s)] (wL K c o b a y t bl ab n ver lf tf len seen) (some (.int (nI (tpS ab s n)))) (wL K c o b a y t bl ab n ver lf tf len seen) := by
  refine zo (by decide) (Nat.le_of_ble_eq_true rfl) fun x C R _ => ?_
  have loop : ∀ mm k, k + mm = n → zv_V x (gz K (zq 0 0 0 0) 4 cX1_topsOf yX1_topsOf.cls) 4 [(0, .ref c), (1, .int (nI s)), (2, .int (nI (tpS ab s k))), (3, .int (nI k))] [] (wL K c o b a y t bl ab n ver lf tf len seen) 0 0 := by
    intro mm
    induction mm with
    | zero =>
      intro k hk
      have e : k = n := by omega
      subst e
      refine zv_go C okX1_topsOf [] 20 ?_
      refine ⟨rfl, rfl, fun _ => ?_, fun h => absurd (nI_le (Nat.le_refl _) (by omega)) h⟩
      exact zr R () [0, 1, 2, 3, 4, 5] (some (.int _)) _ rfl rfl trivial rfl rfl (Nat.le_refl _) (Nat.le_refl _) dzX1_topsOf_50
    | succ mm ih =>
      intro k hk
      refine zv_go C okX1_topsOf [4] 50 ?_
      refine ⟨rfl, rfl, fun h => absurd h (nI_ge (by omega) (by omega)), fun _ => ⟨fun h => ?_, fun h => ⟨rfl, rfl, ⟨rfl, rfl⟩, vp_in_nI (by omega) (by decide), fun h2 => ?_, fun h2 => ?_⟩⟩⟩
      · rw [nb_t0 (Nat.lt_trans hs (by decide)) (by omega)] at h
        refine zv_to C (lv' := [(0, .ref c), (1, .int (nI s)), (2, .int (nI (tpS ab s (k + 1)))), (3, .int (nI (k + 1)))]) ?_ rfl rfl (ih (k + 1) (by omega))
        rw [tpS, if_neg (fun q => by rw [q.1] at h; cases h), ← nI_1]
        rfl
      · rw [nI_clamp (by omega), nb_and, nb_0 (Nat.lt_of_le_of_lt Nat.and_le_left (Nat.lt_trans (ha k) (by decide)))] at h2
        refine zv_to C (lv' := [(0, .ref c), (1, .int (nI s)), (2, .int (nI (tpS ab s (k + 1)))), (3, .int (nI (k + 1)))]) ?_ rfl rfl (ih (k + 1) (by omega))
        rw [tpS, if_neg (fun q => h2 q.2), ← nI_1]
        rfl
      · rw [nb_t1 (Nat.lt_trans hs (by decide)) (by omega)] at h
        rw [nI_clamp (by omega), nb_and, nb_0 (Nat.lt_of_le_of_lt Nat.and_le_left (Nat.lt_trans (ha k) (by decide)))] at h2
        refine zv_to C (lv' := [(0, .ref c), (1, .int (nI s)), (2, .int (nI (tpS ab s (k + 1)))), (3, .int (nI (k + 1)))]) ?_ rfl rfl (ih (k + 1) (by omega))
        rw [tpS, if_pos ⟨h, h2⟩, ← nI_1, ← nb_or, ← nb_1s k (by omega)]
        rfl
  refine zv_go C okX1_topsOf [4] 20 ?_
  exact loop n 0 (by omega)
def lsF (n s : Nat) : Nat → Nat
  | 0 => 0
  | m + 1 => if s.testBit (n - (m + 1)) = true then n - (m + 1) else lsF n s m
theorem lsF_lt {n s : Nat} (hn : n ≤ 14) : ∀ m, lsF n s m < 14
  | 0 => Nat.zero_lt_succ 13
  | m + 1 => by
    unfold lsF
    split
    · omega
    · exact lsF_lt hn m
set_option maxHeartbeats 4000000 in
set_option maxRecDepth 100000 in
theorem c_leastOf (K : zK) (c o b a y t : Nat) (bl ab : Nat → Nat) (n : Nat) (ver : Int32) (lf tf : Nat → Int32) (len seen : Int32) {s : Nat} (hs : s < 2 ^ 14) (hn : n ≤ 14) :
    zD K yX1_leastOf cX1_leastOf 3 (some .int) (zq 0 0 0 0) [.ref c, .int (nI s)] (wL K c o b a y t bl ab n ver lf tf len seen) (some (.int (nI (lsF n s n)))) (wL K c o b a y t bl ab n ver lf tf len seen) := by
  refine zo (by decide) (Nat.le_of_ble_eq_true rfl) fun x C R _ => ?_
  have loop : ∀ mm, mm ≤ n → lsF n s mm = lsF n s n → zv_V x (gz K (zq 0 0 0 0) 3 cX1_leastOf yX1_leastOf.cls) 2 [(0, .ref c), (1, .int (nI s)), (2, .int (nI (n - mm)))] [] (wL K c o b a y t bl ab n ver lf tf len seen) 0 0 := by
    intro mm
    induction mm with
    | zero =>
      intro _ he
      refine zv_go C okX1_leastOf [] 20 ?_
      refine ⟨rfl, rfl, fun _ => ?_, fun h => absurd (nI_le (by omega) (by omega)) h⟩
      exact zr R () [0, 1, 2, 3, 4, 5] (some (.int 0)) _ (by rw [← he] <;> rfl) rfl trivial rfl rfl (Nat.le_refl _) (Nat.le_refl _) dzX1_leastOf_30
    | succ mm ih =>
      intro hm he
      have enx : nI (n - (mm + 1)) + 1 = nI (n - mm) := by rw [nI_1]; congr 1; omega
      refine zv_go C okX1_leastOf [2] 50 ?_
      refine ⟨rfl, rfl, fun h => absurd h (nI_ge (by omega) (by omega)), fun _ => ⟨fun h => ?_, fun h => ?_⟩⟩
      · rw [nb_t0 (Nat.lt_trans hs (by decide)) (by omega)] at h
        rw [lsF, if_neg (by rw [h]; decide)] at he
        exact zv_to C (lv' := [(0, .ref c), (1, .int (nI s)), (2, .int (nI (n - mm)))]) (by rw [← enx] <;> rfl) rfl rfl (ih (by omega) he)
      · rw [nb_t1 (Nat.lt_trans hs (by decide)) (by omega)] at h
        rw [lsF, if_pos h] at he
        exact zr R () [0, 1, 2, 3, 4, 5] (some (.int _)) _ (by rw [← he] <;> rfl) rfl trivial rfl rfl (Nat.le_refl _) (Nat.le_refl _) dzX1_leastOf_22
  refine zv_go C okX1_leastOf [2] 20 ?_
  exact zv_to C (lv' := [(0, .ref c), (1, .int (nI s)), (2, .int (nI (n - n)))]) (by rw [Nat.sub_self] <;> rfl) rfl rfl (loop n (Nat.le_refl _) rfl)
/-- what is left when i layers came off -/
def lft (ab : Nat → Nat) (n : Nat) : Nat → Nat
  | 0 => 2 ^ n - 1
  | i + 1 => ndf (lft ab n i) (tpS ab (lft ab n i) n)
def plc (ab : Nat → Nat) (n : Nat) : Nat → Nat → Nat
  | 0, i => i
  | m + 1, i => if lft ab n i = 0 then i else plc ab n m (i + 1)
def plen (ab : Nat → Nat) (n : Nat) : Nat := plc ab n 14 0
theorem plc_le {ab : Nat → Nat} {n : Nat} : ∀ m i, plc ab n m i ≤ i + m
  | 0, i => Nat.le_refl _
  | m + 1, i => by
    unfold plc
    split
    · omega
    · have := plc_le (ab := ab) (n := n) m (i + 1)
      omega
theorem plen_le (ab : Nat → Nat) (n : Nat) : plen ab n ≤ 14 := plc_le 14 0
theorem lft_lt {ab : Nat → Nat} {n : Nat} (hn : n ≤ 14) : ∀ i, lft ab n i < 2 ^ 14
  | 0 => nb_all_lt hn
  | i + 1 => Nat.lt_of_le_of_lt (ndf_le _ _) (lft_lt hn i)
set_option maxHeartbeats 4000000 in
set_option maxRecDepth 100000 in
theorem c_peelLayers (K : zK) (c o b a y t : Nat) (bl ab : Nat → Nat) (n : Nat) (ver : Int32) (lf tf : Nat → Int32) (len seen : Int32) (hn : n ≤ 14) (ha : ∀ j, ab j < 2 ^ 14) :
    zM (S := Nat → Int32) K yX1_peelLayers cX1_peelLayers 3 none (zq 1 0 0 23) [.ref c] (wL K c o b a y t bl ab n ver lf tf len seen) (fun u => ∀ j, j < plen ab n → u j = nI (tpS ab (lft ab n j) n)) (fun _ => none) (fun u => wL K c o b a y t bl ab n ver u tf (nI (plen ab n)) seen) := by
  refine zo (by decide) (Nat.le_of_ble_eq_true rfl) fun x C R _ => ?_
  have loop : ∀ mm i (f : Nat → Int32) (lv2 : zv_L), i + mm = 14 → plc ab n mm i = plen ab n → (∀ j, j < i → f j = nI (tpS ab (lft ab n j) n)) → (lv2 = [] ∨ ∃ z, lv2 = [(2, .int z)]) → zv_V x (gz K (zq 1 0 0 23) 3 cX1_peelLayers yX1_peelLayers.cls) 13 ([(0, .ref c), (1, .int (nI (lft ab n i)))] ++ lv2) [] (wL K c o b a y t bl ab n ver f tf (nI i) seen) 0 0 := by
    intro mm
    induction mm with
    | zero =>
      intro i f lv2 hi he hf hl
      have e : i = 14 := by omega
      subst e
      have he : 14 = plen ab n := he
      refine zv_drop C [0, 1] (lv' := [(0, .ref c), (1, .int (nI (lft ab n 14)))]) (by rcases hl with rfl | ⟨z, rfl⟩ <;> rfl) ?_
      refine zv_go C okX1_peelLayers [] 20 ?_
      refine ⟨fun h => ?_, fun h => ⟨rfl, fun h2 => ?_, fun h2 => absurd (by decide) h2⟩⟩
      · exact zr R f [0, 1, 2, 3, 4, 5] none (wL K c o b a y t bl ab n ver f tf (nI 14) seen) rfl (by rw [← he]) (by rw [← he]; exact hf) rfl rfl (Nat.le_refl _) (Nat.le_refl _) dzX1_peelLayers_61
      · exact zr R f [0, 1, 2, 3, 4, 5] none (wL K c o b a y t bl ab n ver f tf (nI 14) seen) rfl (by rw [← he]) (by rw [← he]; exact hf) rfl rfl (Nat.le_refl _) (Nat.le_refl _) dzX1_peelLayers_61
    | succ mm ih =>
      intro i f lv2 hi he hf hl
      have hlt := lft_lt (ab := ab) hn i
      refine zv_drop C [0, 1] (lv' := [(0, .ref c), (1, .int (nI (lft ab n i)))]) (by rcases hl with rfl | ⟨z, rfl⟩ <;> rfl) ?_
      refine zv_go C okX1_peelLayers [] 20 ?_
      refine ⟨fun h => ?_, fun h => ⟨rfl, fun h2 => absurd h2 (nI_ge (a := i) (b := 14) (by omega) (by decide)), fun _ => ?_⟩⟩
      · rw [nb_0 (Nat.lt_trans hlt (by decide))] at h
        rw [plc, if_pos h] at he
        exact zr R f [0, 1, 2, 3, 4, 5] none (wL K c o b a y t bl ab n ver f tf (nI i) seen) rfl (by rw [← he]) (by rw [← he]; exact hf) rfl rfl (Nat.le_refl _) (Nat.le_refl _) dzX1_peelLayers_61
      · rw [nb_0 (Nat.lt_trans hlt (by decide))] at h
        rw [plc, if_neg h] at he
        refine zv_callV C (c_topsOf K c o b a y t bl ab n ver f tf (nI i) seen hlt hn ha) (zw_V inX1_topsOf kX1_47 ⟨by decide, by decide⟩) [0, 1, 2, 3, 4, 5] 0 rfl rfl rfl rfl (fun _ => Nat.le_refl _) rfl rfl (by decide) dzX1_peelLayers_28 (by decide) (by decide) rfl (fun _ _ => ?_)
        refine zv_to C rfl rfl (ws' := wL K c o b a y t bl ab n ver f tf (nI i) seen) rfl ?_
        refine zv_go C okX1_peelLayers [13] 50 ?_
        refine ⟨rfl, rfl, ⟨rfl, rfl⟩, vp_in_nI (by omega) (by decide), rfl, rfl, ?_⟩
        refine zv_to C (lv' := [(0, .ref c), (1, .int (nI (lft ab n (i + 1)))), (2, .int (nI (tpS ab (lft ab n i) n)))]) (by rw [lft, ← nb_not] <;> rfl) rfl (ws' := wL K c o b a y t bl ab n ver (upd f (nI i).toNatClampNeg (nI (tpS ab (lft ab n i) n))) tf (nI (i + 1)) seen) (by rw [← nI_1] <;> rfl) (ih (i + 1) _ [(2, .int (nI (tpS ab (lft ab n i) n)))] (by omega) he ?_ (Or.inr ⟨_, rfl⟩))
        intro j hj
        rw [nI_clamp (by omega)]
        by_cases e : j = i
        · rw [e, pk_us]
        · rw [pk_un e]; exact hf j (by omega)
  refine zv_go C okX1_peelLayers [] 2 ?_
  refine ⟨rfl, ?_⟩
  refine zv_callV C (c_all K o b a bl ab n ver hn) (zw_V inX4_all kX1_43 ⟨by decide, by decide⟩) [1, 2, 3] 1 rfl rfl rfl rfl (fun _ => Nat.le_refl _) rfl rfl (by decide) dzX1_peelLayers_4 (by decide) (by decide) rfl (fun _ _ => ?_)
  refine zv_to C rfl rfl (ws' := wL K c o b a y t bl ab n ver lf tf len seen) rfl ?_
  refine zv_go C okX1_peelLayers [13] 20 ?_
  refine ⟨rfl, ?_⟩
  exact loop 14 0 lf [] rfl rfl (fun j hj => absurd hj (Nat.not_lt_zero _)) (Or.inl rfl)
/-- what is allowed at place i of the chain, and the thing there -/
def cal (ab : Nat → Nat) (n : Nat) : Nat → Nat
  | 0 => 2 ^ n - 1
  | i + 1 => ab (lsF n (tpS ab (lft ab n (plen ab n - 1 - i)) n &&& cal ab n i) n)
def cth (ab : Nat → Nat) (n i : Nat) : Nat := lsF n (tpS ab (lft ab n (plen ab n - 1 - i)) n &&& cal ab n i) n
theorem cal_lt {ab : Nat → Nat} {n : Nat} (hn : n ≤ 14) (ha : ∀ j, ab j < 2 ^ 14) : ∀ i, cal ab n i < 2 ^ 14
  | 0 => nb_all_lt hn
  | i + 1 => ha _
set_option maxHeartbeats 4000000 in
set_option maxRecDepth 100000 in
theorem c_climb (K : zK) (c o b a y t : Nat) (bl ab : Nat → Nat) (n : Nat) (ver : Int32) (lf tf : Nat → Int32) (seen : Int32) (hn : n ≤ 14) (ha : ∀ j, ab j < 2 ^ 14) (hl : ∀ j, j < plen ab n → lf j = nI (tpS ab (lft ab n j) n)) :
    zM (S := Nat → Int32) K yX1_climb cX1_climb 4 none (zq 1 0 0 22) [.ref c] (wL K c o b a y t bl ab n ver lf tf (nI (plen ab n)) seen) (fun u => ∀ j, j < plen ab n → u j = nI (cth ab n j)) (fun _ => none) (fun u => wL K c o b a y t bl ab n ver lf u (nI (plen ab n)) seen) := by
  have hpl := plen_le ab n
  refine zo (by decide) (Nat.le_of_ble_eq_true rfl) fun x C R _ => ?_
  have loop : ∀ mm i (f : Nat → Int32) (lv2 : zv_L), i + mm = plen ab n → (∀ j, j < i → f j = nI (cth ab n j)) → (lv2 = [] ∨ ∃ z, lv2 = [(3, .int z)]) → zv_V x (gz K (zq 1 0 0 22) 4 cX1_climb yX1_climb.cls) 10 ([(0, .ref c), (1, .int (nI (cal ab n i))), (2, .int (nI i))] ++ lv2) [] (wL K c o b a y t bl ab n ver lf f (nI (plen ab n)) seen) 0 0 := by
    intro mm
    induction mm with
    | zero =>
      intro i f lv2 hi hf hl2
      have e : i = plen ab n := by omega
      refine zv_drop C [0, 1, 2] (lv' := [(0, .ref c), (1, .int (nI (cal ab n i))), (2, .int (nI i))]) (by rcases hl2 with rfl | ⟨z, rfl⟩ <;> rfl) ?_
      refine zv_go C okX1_climb [] 20 ?_
      refine ⟨rfl, fun _ => ?_, fun h => absurd (nI_le (by omega) (by omega)) h⟩
      exact zr R f [0, 1, 2, 3, 4, 5] none _ rfl rfl (by rw [← e]; exact hf) rfl rfl (Nat.le_refl _) (Nat.le_refl _) dzX1_climb_61
    | succ mm ih =>
      intro i f lv2 hi hf hl2
      have eix : nI (plen ab n) - 1 - nI i = nI (plen ab n - 1 - i) := by
        have e1 : (1 : Int32) = nI 1 := rfl
        rw [e1, pk_sub (by omega), pk_sub (by omega)]
      have hsl : tpS ab (lft ab n (plen ab n - 1 - i)) n &&& cal ab n i < 2 ^ 14 := Nat.lt_of_le_of_lt Nat.and_le_left (tpS_lt n hn)
      refine zv_drop C [0, 1, 2] (lv' := [(0, .ref c), (1, .int (nI (cal ab n i))), (2, .int (nI i))]) (by rcases hl2 with rfl | ⟨z, rfl⟩ <;> rfl) ?_
      refine zv_go C okX1_climb [] 30 ?_
      refine ⟨rfl, fun h => absurd h (nI_ge (by omega) (by omega)), fun _ => ⟨rfl, rfl, ⟨rfl, rfl⟩, ?_, ?_⟩⟩
      · show vp_in (nI (plen ab n) - 1 - nI i) 14
        rw [eix]
        exact vp_in_nI (by omega) (by decide)
      refine zv_to C rfl (st' := [.int (nI (tpS ab (lft ab n (plen ab n - 1 - i)) n &&& cal ab n i)), .ref c]) ?_ rfl ?_
      · show [Value.int (lf (nI (plen ab n) - 1 - nI i).toNatClampNeg &&& nI (cal ab n i)), Value.ref c] = _
        rw [eix, nI_clamp (by omega), hl _ (by omega), nb_and]
      refine zv_callV C (c_leastOf K c o b a y t bl ab n ver lf f (nI (plen ab n)) seen hsl hn) (zw_V inX1_leastOf kX1_57 ⟨by decide, by decide⟩) [0, 1, 2, 3, 4, 5] 0 rfl rfl rfl rfl (fun _ => Nat.le_refl _) rfl rfl (by decide) dzX1_climb_34 (by decide) (by decide) rfl (fun _ _ => ?_)
      refine zv_to C rfl rfl (ws' := wL K c o b a y t bl ab n ver lf f (nI (plen ab n)) seen) rfl ?_
      refine zv_go C okX1_climb [10] 50 ?_
      have hth : cth ab n i < 14 := lsF_lt hn n
      refine ⟨rfl, ⟨rfl, rfl⟩, vp_in_nI (by omega) (by decide), rfl, rfl, ⟨rfl, rfl⟩, vp_in_nI hth (by decide), ?_⟩
      refine zv_to C (lv' := [(0, .ref c), (1, .int (nI (cal ab n (i + 1)))), (2, .int (nI (i + 1))), (3, .int (nI (cth ab n i)))]) ?_ rfl (ws' := wL K c o b a y t bl ab n ver lf (upd f (nI i).toNatClampNeg (nI (cth ab n i))) (nI (plen ab n)) seen) rfl (ih (i + 1) _ [(3, .int (nI (cth ab n i)))] (by omega) ?_ (Or.inr ⟨_, rfl⟩))
      · show [(0, Value.ref c), (1, .int (nI (ab (nI (cth ab n i)).toNatClampNeg))), (2, .int (nI i + 1)), (3, .int (nI (cth ab n i)))] = _
        rw [nI_clamp (by omega), nI_1]
        rfl
      · intro j hj
        rw [nI_clamp (by omega)]
        by_cases e : j = i
        · rw [e, pk_us]
        · rw [pk_un e]; exact hf j (by omega)
  refine zv_go C okX1_climb [] 2 ?_
  refine ⟨rfl, ?_⟩
  refine zv_callV C (c_all K o b a bl ab n ver hn) (zw_V inX4_all kX1_43 ⟨by decide, by decide⟩) [1, 2, 3] 1 rfl rfl rfl rfl (fun _ => Nat.le_refl _) rfl rfl (by decide) dzX1_climb_4 (by decide) (by decide) rfl (fun _ _ => ?_)
  refine zv_to C rfl rfl (ws' := wL K c o b a y t bl ab n ver lf tf (nI (plen ab n)) seen) rfl ?_
  refine zv_go C okX1_climb [10] 20 ?_
  exact loop (plen ab n) 0 tf [] (by omega) (fun j hj => absurd hj (Nat.not_lt_zero _)) (Or.inl rfl)
end
section
/-! LONGEST CHAIN: refresh, length, thingAt -/
/-- what the object keeps of the chain is true -/
def lcV (ab : Nat → Nat) (n : Nat) (len : Int32) (tf : Nat → Int32) : Prop := len = nI (plen ab n) ∧ ∀ j, j < plen ab n → tf j = nI (cth ab n j)
set_option maxHeartbeats 4000000 in
set_option maxRecDepth 100000 in
theorem c_lcRefresh (K : zK) (c o b a y t : Nat) (bl ab : Nat → Nat) (n : Nat) (ver : Int32) (lf tf : Nat → Int32) (len seen : Int32) (hn : n ≤ 14) (ha : ∀ j, ab j < 2 ^ 14) (hs : seen = ver → lcV ab n len tf) :
    zM (S := (Nat → Int32) × (Nat → Int32)) K yX1_refresh cX1_refresh 1 none (zq 2 0 0 45) [.ref c] (wL K c o b a y t bl ab n ver lf tf len seen) (fun u => lcV ab n (nI (plen ab n)) u.2) (fun _ => none) (fun u => wL K c o b a y t bl ab n ver u.1 u.2 (nI (plen ab n)) ver) := by
  refine zo (by decide) (Nat.le_of_ble_eq_true rfl) fun x C R _ => ?_
  refine zv_go C okX1_refresh [] 20 ?_
  refine ⟨rfl, rfl, rfl, fun h => ?_, fun h => ⟨rfl, rfl, rfl, ?_⟩⟩
  · have h : seen = ver := h
    subst h
    have hv := hs rfl
    exact zr R (lf, tf) [0, 1, 2, 3, 4, 5] none (wL K c o b a y t bl ab n seen lf tf len seen) rfl (by rw [hv.1]) ⟨rfl, hv.2⟩ rfl rfl (Nat.le_refl _) (Nat.le_refl _) dzX1_refresh_33
  · refine zv_callV C (c_peelLayers K c o b a y t bl ab n ver lf tf len ver hn ha) (zw_V inX1_peelLayers kX1_37 ⟨by decide, by decide⟩) [0, 1, 2, 3, 4, 5] 0 rfl rfl rfl rfl (fun _ => Nat.le_refl _) rfl rfl (by decide) dzX1_refresh_26 (by decide) (by decide) rfl (fun u hu => ?_)
    refine zv_to C rfl rfl (ws' := wL K c o b a y t bl ab n ver u tf (nI (plen ab n)) ver) rfl ?_
    refine zv_go C okX1_refresh [] 1 ?_
    refine zv_callV C (c_climb K c o b a y t bl ab n ver u tf ver hn ha hu) (zw_V inX1_climb kX1_40 ⟨by decide, by decide⟩) [0, 1, 2, 3, 4, 5] 0 rfl rfl rfl rfl (fun _ => Nat.le_refl _) rfl rfl (by decide) dzX1_refresh_30 (by decide) (by decide) rfl (fun g hg => ?_)
    exact zr R (u, g) [0, 1, 2, 3, 4, 5] none _ rfl rfl ⟨rfl, hg⟩ rfl rfl (Nat.le_refl _) (Nat.le_refl _) dzX1_refresh_33
set_option maxHeartbeats 4000000 in
set_option maxRecDepth 100000 in
theorem c_lcLength (K : zK) (c o b a y t : Nat) (bl ab : Nat → Nat) (n : Nat) (ver : Int32) (lf tf : Nat → Int32) (len seen : Int32) (hn : n ≤ 14) (ha : ∀ j, ab j < 2 ^ 14) (hs : seen = ver → lcV ab n len tf) :
    zM (S := (Nat → Int32) × (Nat → Int32)) K yX1_length cX1_length 1 (some .int) (zq 3 0 0 65) [.ref c] (wL K c o b a y t bl ab n ver lf tf len seen) (fun u => lcV ab n (nI (plen ab n)) u.2) (fun _ => some (.int (nI (plen ab n)))) (fun u => wL K c o b a y t bl ab n ver u.1 u.2 (nI (plen ab n)) ver) := by
  refine zo (by decide) (Nat.le_of_ble_eq_true rfl) fun x C R _ => ?_
  refine zv_go C okX1_length [] 1 ?_
  refine zv_callV C (c_lcRefresh K c o b a y t bl ab n ver lf tf len seen hn ha hs) (zw_V inX1_refresh kX1_26 ⟨by decide, by decide⟩) [0, 1, 2, 3, 4, 5] 0 rfl rfl rfl rfl (fun _ => Nat.le_refl _) rfl rfl (by decide) dzX1_length_1 (by decide) (by decide) rfl (fun u hu => ?_)
  refine zv_to C rfl rfl (ws' := wL K c o b a y t bl ab n ver u.1 u.2 (nI (plen ab n)) ver) rfl ?_
  refine zv_go C okX1_length [] 20 ?_
  refine ⟨rfl, ?_⟩
  exact zr R u [0, 1, 2, 3, 4, 5] (some (.int _)) _ rfl rfl hu rfl rfl (Nat.le_refl _) (Nat.le_refl _) dzX1_length_8
/-- thing i of the chain, for any number i -/
def chAt (ab : Nat → Nat) (n : Nat) (i : Int32) : Int32 := if 0 ≤ i ∧ i < nI (plen ab n) then nI (cth ab n i.toNatClampNeg) else -1
set_option maxHeartbeats 4000000 in
set_option maxRecDepth 100000 in
theorem c_thingAt (K : zK) (c o b a y t : Nat) (bl ab : Nat → Nat) (n : Nat) (ver : Int32) (lf tf : Nat → Int32) (len seen i : Int32) (hn : n ≤ 14) (ha : ∀ j, ab j < 2 ^ 14) (hs : seen = ver → lcV ab n len tf) :
    zM (S := (Nat → Int32) × (Nat → Int32)) K yX1_thingAt cX1_thingAt 2 (some .int) (zq 3 0 0 65) [.ref c, .int i] (wL K c o b a y t bl ab n ver lf tf len seen) (fun u => lcV ab n (nI (plen ab n)) u.2) (fun _ => some (.int (chAt ab n i))) (fun u => wL K c o b a y t bl ab n ver u.1 u.2 (nI (plen ab n)) ver) := by
  have hpl := plen_le ab n
  refine zo (by decide) (Nat.le_of_ble_eq_true rfl) fun x C R _ => ?_
  refine zv_go C okX1_thingAt [] 1 ?_
  refine zv_callV C (c_lcRefresh K c o b a y t bl ab n ver lf tf len seen hn ha hs) (zw_V inX1_refresh kX1_26 ⟨by decide, by decide⟩) [0, 1, 2, 3, 4, 5] 0 rfl rfl rfl rfl (fun _ => Nat.le_refl _) rfl rfl (by decide) dzX1_thingAt_1 (by decide) (by decide) rfl (fun u hu => ?_)
  refine zv_to C rfl rfl (ws' := wL K c o b a y t bl ab n ver u.1 u.2 (nI (plen ab n)) ver) rfl ?_
  refine zv_go C okX1_thingAt [] 20 ?_
  refine ⟨fun h => ?_, fun h => ⟨rfl, fun h2 => ?_, fun h2 => ⟨rfl, ⟨rfl, rfl⟩, ?_, ?_⟩⟩⟩
  · exact zr R u [0, 1, 2, 3, 4, 5] (some (.int (-1))) _ (by unfold chAt; rw [if_neg (fun q => absurd q.1 (Int32.not_le.mpr h))]) rfl hu rfl rfl (Nat.le_refl _) (Nat.le_refl _) dzX1_thingAt_26
  · exact zr R u [0, 1, 2, 3, 4, 5] (some (.int (-1))) _ (by unfold chAt; rw [if_neg (fun q => absurd q.2 (Int32.not_lt.mpr h2))]) rfl hu rfl rfl (Nat.le_refl _) (Nat.le_refl _) dzX1_thingAt_26
  · obtain ⟨j, hj, rfl, -⟩ := pk_mu h h2 (by omega)
    exact vp_in_nI (by omega) (by decide)
  · have hq : 0 ≤ i ∧ i < nI (plen ab n) := ⟨Int32.not_lt.mp h, Int32.not_le.mp h2⟩
    obtain ⟨j, hj, hij, -⟩ := pk_mu h h2 (by omega)
    refine zr R u [0, 1, 2, 3, 4, 5] (some (.int _)) _ ?_ rfl hu rfl rfl (Nat.le_refl _) (Nat.le_refl _) dzX1_thingAt_26
    have h5 : u.2 i.toNatClampNeg = nI (cth ab n i.toNatClampNeg) := hu.2 _ (by rw [hij, nI_clamp (by omega)]; exact hj)
    unfold chAt
    rw [if_pos hq, h5]
end
section
/-! THE JDK's min, fill, arraycopy, copyOf -/
set_option maxHeartbeats 4000000 in
set_option maxRecDepth 100000 in
theorem c_fill (K : zK) (r N : Nat) (f : Nat → Int64) (v : Int64) (hN : N < 2 ^ 31) : zD K yJ7_fill_d0a16 cJ7_fill_d0a16 5 none (zq 0 0 0 0) [.ref r, .long v] [(r, .inl (cJ K, N, .inr (.inl f)))] none [(r, .inl (cJ K, N, .inr (.inl (fun _ => v))))] := by
  refine zo (by decide) (Nat.le_of_ble_eq_true rfl) fun x C R _ => ?_
  have loop : ∀ mm k (g : Nat → Int64), k + mm = N → (∀ j, j < k → g j = v) → zv_V x (gz K (zq 0 0 0 0) 5 cJ7_fill_d0a16 yJ7_fill_d0a16.cls) 6 [(0, .ref r), (1, .long v), (3, .int (nI k)), (4, .int (nI N))] [] [(r, .inl (cJ K, N, .inr (.inl g)))] 0 0 := by
    intro mm
    induction mm with
    | zero =>
      intro k g hk hg
      have e : k = N := by omega
      subst e
      refine zv_exL C 0 (fun _ => v) rfl hg ?_
      refine zv_go C okJ7_fill_d0a16 [] 20 ?_
      refine ⟨fun _ => ?_, fun h => absurd (nI_le (Nat.le_refl _) hN) h⟩
      exact zr R () [0] none _ rfl rfl trivial rfl rfl (Nat.le_refl _) (Nat.le_refl _) dzJ7_fill_d0a16_22
    | succ mm ih =>
      intro k g hk hg
      refine zv_go C okJ7_fill_d0a16 [6] 20 ?_
      refine ⟨fun h => absurd h (nI_ge (by omega) hN), fun _ => ⟨⟨rfl, rfl⟩, vp_in_nI (by omega) hN, ?_⟩⟩
      refine zv_to C (lv' := [(0, .ref r), (1, .long v), (3, .int (nI (k + 1))), (4, .int (nI N))]) (by rw [← nI_1] <;> rfl) rfl rfl (ih (k + 1) _ (by omega) ?_)
      intro j hj
      rw [nI_clamp (by omega)]
      by_cases e : j = k
      · rw [e, pk_uLs]
      · rw [pk_uLn e]; exact hg j (by omega)
  refine zv_go C okJ7_fill_d0a16 [6] 20 ?_
  refine ⟨⟨rfl, rfl⟩, ?_⟩
  exact loop N 0 f (by omega) (fun j hj => absurd hj (Nat.not_lt_zero _))
section ZY
variable {x : zv_X} {l : Launch} {R : Room} {D : va_G} {cl : List vw_C} {tys : List (ClassId × FieldType)} {nL : Nat} {cc : ByteArray} {own : String} {Ts : List Jvm.Cond}
variable {pc nx : Nat} {lv : zv_L} {st rest : List Value} {ws : va_W} {ce sl : Nat}
theorem zv_copyi (C : zv_C x (l, R, D, cl, tys, nL, cc, own, Ts)) {index : Nat} (hk : (decide (Jvm.Cond.methodLink own index arraycopyName ∈ Ts) && (decide (Jvm.Cond.native arraycopyName ∈ Ts) && (decide (Jvm.Cond.static arraycopyName ∈ Ts) && decide (Jvm.Cond.initialized "java/lang/System" ∈ Ts)))) = true) (q0 q1 t0 : Nat) {a0 a1 : Nat} {cA : ClassId} {n0 n1 : Nat} {f g : Nat → Int32} (ha0 : ws[q0]? = some (a0, .inl (cA, n0, .inl f))) (ha1 : ws[q1]? = some (a1, .inl (cA, n1, .inl g))) (ht0 : tys[t0]? = some (cA, .int))
    {sp dp n : Int32} (hst : st = .int n :: .int dp :: .ref a1 :: .int sp :: .ref a0 :: rest) (h1 : ¬ sp < 0) (h2 : ¬ dp < 0) (h3 : ¬ n < 0) (h4 : sp.toNatClampNeg + n.toNatClampNeg ≤ n0) (h5 : dp.toNatClampNeg + n.toNatClampNeg ≤ n1) (hfr : 1 ≤ R.frames) (hloc : (rest.map fun v => v.category).sum + (nativeFrameWords "java/lang/System" "arraycopy" 5 + 11) ≤ R.locals) (hdg : decode cc pc = .ok (.invokestatic index, 3)) (hnx : pc + 3 = nx)
    (k : zv_V x (l, R, D, cl, tys, nL, cc, own, Ts) nx lv rest (ws.set q1 (a1, .inl (cA, n1, .inl (va_cpy f g sp.toNatClampNeg dp.toNatClampNeg n.toNatClampNeg)))) ce sl) : zv_V x (l, R, D, cl, tys, nL, cc, own, Ts) pc lv st ws ce sl := by
  subst hnx
  subst hst
  obtain ⟨p, e, s, m, args, below, meth, c, A, Q⟩ := x
  obtain ⟨hx, hb, hml, hown, hts, hK, hA, hE, hct⟩ := C
  simp only [Bool.and_eq_true, decide_eq_true_eq] at hk
  obtain ⟨k1, k2, k3, k4⟩ := hk
  intro H locs ls hP hD hS hl
  exact va_copyi hx hb (hml.trans hl.1.symm) hown (hts _ k1) (hts _ k2) (hts _ k3) (hts _ k4) hK hP hD hS q0 q1 t0 t0 ha0 ha1 ht0 ht0 rfl h1 h2 h3 h4 h5 (fun _ _ => rfl) hfr hloc hdg (fun H locs hP hD hS => k H locs ls hP hD hS hl)
theorem zv_mmin (C : zv_C x (l, R, D, cl, tys, nL, cc, own, Ts)) {index : Nat} (hk : (decide (Jvm.Cond.methodLink own index Lib.Math.min.name ∈ Ts) && (decide (Jvm.Cond.static Lib.Math.min.name ∈ Ts) && decide (Jvm.Cond.initialized "java/lang/Math" ∈ Ts))) = true) (hcode : Jvm.Cond.code Lib.Math.min.name Lib.Math.min.code 2 (some .int) ∈ Ts) {u v : Int32} (hst : st = .int v :: .int u :: rest) (hfr : 1 ≤ R.frames) (hloc : (rest.map fun v => v.category).sum + 13 ≤ R.locals) (hc : ce ≤ R.cells) (hs : sl ≤ R.slots) (hdg : decode cc pc = .ok (.invokestatic index, 3)) (hnx : pc + 3 = nx)
    (k : zv_V x (l, R, D, cl, tys, nL, cc, own, Ts) nx lv (.int (if v < u then v else u) :: rest) ws ce sl) : zv_V x (l, R, D, cl, tys, nL, cc, own, Ts) pc lv st ws ce sl := by
  subst hnx
  subst hst
  obtain ⟨p, e, s, m, args, below, meth, c, A, Q⟩ := x
  obtain ⟨hx, hb, hml, hown, hts, hK, hA, hE, hct⟩ := C
  simp only [Bool.and_eq_true, decide_eq_true_eq] at hk
  obtain ⟨k1, k2, k3⟩ := hk
  intro H locs ls hP hD hS hl
  exact va_mmin hx hb (hml.trans hl.1.symm) hown (hts _ k1) (hts _ k2) (hts _ k3) (hts _ hcode) hfr hloc hc hs hdg (k H locs ls hP hD hS hl)
end ZY
theorem zk_min : (decide (Jvm.Cond.methodLink RJ7 304 Lib.Math.min.name ∈ zt) && (decide (Jvm.Cond.static Lib.Math.min.name ∈ zt) && decide (Jvm.Cond.initialized "java/lang/Math" ∈ zt))) = true := by decide +kernel
theorem zk_copy : (decide (Jvm.Cond.methodLink RJ7 150 arraycopyName ∈ zt) && (decide (Jvm.Cond.native arraycopyName ∈ zt) && (decide (Jvm.Cond.static arraycopyName ∈ zt) && decide (Jvm.Cond.initialized "java/lang/System" ∈ zt)))) = true := by decide +kernel
theorem zk_arrI : Jvm.Cond.arrayClass .int ∈ zt := by decide +kernel
theorem zk_arrJ : Jvm.Cond.arrayClass .long ∈ zt := by decide +kernel
theorem zk_arrB : Jvm.Cond.arrayClass .byte ∈ zt := by decide +kernel
theorem zk_arrZ : Jvm.Cond.arrayClass .boolean ∈ zt := by decide +kernel
set_option maxHeartbeats 4000000 in
set_option maxRecDepth 100000 in
theorem c_copyOf (K : zK) (r n0 n1 : Nat) (f : Nat → Int32) (h01 : n0 < n1) (h1 : n1 ≤ 65536) :
    zM (S := Nat) K yJ7_copyOf_59c91 cJ7_copyOf_59c91 3 (some (.array .int)) (zq 1 1 n1 60) [.ref r, .int (nI n1)] [(r, .inl (cI K, n0, .inl f))] (fun _ => True) (fun u => some (.ref u)) (fun u => [(r, .inl (cI K, n0, .inl f)), (u, .inl (cI K, n1, .inl (fun j => if j < n0 then f j else 0)))]) := by
  refine zo (by decide) (Nat.le_of_ble_eq_true rfl) fun x C R _ => ?_
  refine zv_go C okJ7_copyOf_59c91 [] 20 ?_
  refine ⟨⟨rfl, rfl⟩, fun h => ?_, fun h => absurd h (fun e => by
    have e : nI n1 = nI n0 := e
    rw [nb_inj (by omega) (by omega)] at e
    omega)⟩
  refine zv_newa C (atype := .int) 0 0 (N' := n1) (a0 := (n1, .inl (fun _ => 0))) rfl zk_arrI rfl (fun _ => rfl) rfl (nI_pos (by omega)) (nI_clamp (by omega)) (by show n1 * 4 ≤ _; omega) dzJ7_copyOf_59c91_15 (Nat.le_refl 1) (by show 0 + n1 ≤ n1; omega) rfl (fun q => ?_)
  refine zv_to C rfl rfl (ws' := [(r, .inl (cI K, n0, .inl f)), (q, .inl (cI K, n1, .inl (fun _ => 0)))]) rfl ?_
  refine zv_go C okJ7_copyOf_59c91 [] 20 ?_
  refine ⟨⟨rfl, rfl⟩, ?_⟩
  refine zv_mmin C zk_min inJ9_min_7cf53 (u := nI n0) (v := nI n1) (rest := [.int 0, .ref q, .int 0, .ref r]) rfl (Nat.le_refl 1) (Nat.le_of_ble_eq_true rfl) (by show 0 + 1 ≤ 1; omega) (by show 0 + n1 ≤ n1; omega) dzJ7_copyOf_59c91_25 rfl ?_
  have em : (if nI n1 < nI n0 then nI n1 else nI n0) = nI n0 := if_neg (nI_nlt (by omega) (by omega))
  refine zv_to C rfl (st' := [.int (nI n0), .int 0, .ref q, .int 0, .ref r]) (by rw [em] <;> rfl) (ws' := [(r, .inl (cI K, n0, .inl f)), (q, .inl (cI K, n1, .inl (fun _ => 0)))]) rfl ?_
  have ec : (nI n0).toNatClampNeg = n0 := nI_clamp (by omega)
  refine zv_copyi C zk_copy 0 1 0 rfl rfl rfl rfl (by decide) (by decide) (nI_pos (by omega)) (by rw [ec]; exact Nat.le_of_eq (Nat.zero_add n0)) (by rw [ec]; show 0 + n0 ≤ n1; omega) (Nat.le_refl 1) (Nat.le_of_ble_eq_true rfl) dzJ7_copyOf_59c91_28 rfl ?_
  refine zv_exI C 1 (fun j => if j < n0 then f j else 0) rfl ?_ ?_
  · intro j hj
    rw [ec]
    show va_cpy f (fun _ => 0) 0 0 n0 j = _
    by_cases h5 : j < n0
    · rw [pk_cpy_in (by omega) (by omega), if_pos h5]
      congr 1
      omega
    · rw [pk_cpy_out (by omega), if_neg h5]
  refine zv_go C okJ7_copyOf_59c91 [] 20 ?_
  exact zr R q [0, 1] (some (.ref q)) _ rfl rfl trivial rfl rfl (by show 0 + 1 ≤ 1; omega) (by show 0 + n1 ≤ n1; omega) dzJ7_copyOf_59c91_32
end
section
def tbX0_init : List zv_I := [(0, .aload_n 0, 1, (0, 0, 0, 0, 0, 0)), (1, .invokespecial 3, 4, (0, 0, 0, 0, 0, 0)), (4, .aload_n 0, 5, (0, 0, 0, 0, 0, 0)), (5, .bipush 16, 7, (0, 0, 0, 0, 16, 0)), (7, .newarray .int, 9, (0, 0, 0, 0, 0, 0)), (9, .putfield 9, 12, (0, 0, 1, 2, 0, 0)), (12, .aload_n 0, 13, (0, 0, 0, 0, 0, 0)), (13, .iconst (-1), 14, (0, 0, 0, 0, (-1), 0)), (14, .putfield 15, 17, (0, 0, 3, 0, 0, 0)), (17, .aload_n 0, 18, (0, 0, 0, 0, 0, 0)), (18, .aload_n 1, 19, (0, 0, 0, 0, 0, 0)), (22, .return_, 23, (0, 0, 0, 0, 0, 0))]
theorem okX0_init : zv_ok 2 cX0_init RX0 zt vwCl tbX0_init = true := by decide +kernel
theorem dzX0_init_1 : decode cX0_init 1 = .ok (.invokespecial 3, 3) := by decide +kernel
theorem dzX0_init_7 : decode cX0_init 7 = .ok (.newarray .int, 2) := by decide +kernel
theorem dzX0_init_19 : decode cX0_init 19 = .ok (.putfield 19, 3) := by decide +kernel
theorem dzX0_init_22 : decode cX0_init 22 = .ok (.return_, 1) := by decide +kernel
set_option maxRecDepth 100000 in
theorem inX0_init : Jvm.Cond.code yX0_init cX0_init 2 none ∈ zt := List.mem_filter.mpr ⟨List.mem_append_right _ (List.mem_of_getElem? (i := 170) rfl), rfl⟩
def tbX0_length : List zv_I := [(0, .aload_n 0, 1, (0, 0, 0, 0, 0, 0)), (1, .invokevirtual 23, 4, (0, 0, 0, 0, 0, 0)), (4, .aload_n 0, 5, (0, 0, 0, 0, 0, 0)), (5, .getfield 26, 8, (0, 0, 2, 0, 0, 0)), (8, .ireturn, 9, (0, 0, 0, 0, 0, 0))]
theorem okX0_length : zv_ok 1 cX0_length RX0 zt vwCl tbX0_length = true := by decide +kernel
theorem dzX0_length_1 : decode cX0_length 1 = .ok (.invokevirtual 23, 3) := by decide +kernel
theorem dzX0_length_8 : decode cX0_length 8 = .ok (.ireturn, 1) := by decide +kernel
set_option maxRecDepth 100000 in
theorem inX0_length : Jvm.Cond.code yX0_length cX0_length 1 ((some .int)) ∈ zt := List.mem_filter.mpr ⟨List.mem_append_right _ (List.mem_of_getElem? (i := 372) rfl), rfl⟩
def tbX0_has : List zv_I := [(0, .aload_n 0, 1, (0, 0, 0, 0, 0, 0)), (1, .invokevirtual 23, 4, (0, 0, 0, 0, 0, 0)), (4, .iload_n 1, 5, (0, 0, 0, 0, 0, 0)), (5, .ifCond .lt 15, 8, (20, 0, 0, 0, 0, 0)), (8, .iload_n 1, 9, (0, 0, 0, 0, 0, 0)), (9, .aload_n 0, 10, (0, 0, 0, 0, 0, 0)), (10, .getfield 26, 13, (0, 0, 2, 0, 0, 0)), (13, .if_icmp .ge 7, 16, (20, 0, 0, 0, 0, 0)), (16, .iconst 1, 17, (0, 0, 0, 0, 1, 0)), (17, .goto 4, 20, (21, 0, 0, 0, 0, 0)), (20, .iconst 0, 21, (0, 0, 0, 0, 0, 0)), (21, .ireturn, 22, (0, 0, 0, 0, 0, 0))]
theorem okX0_has : zv_ok 2 cX0_has RX0 zt vwCl tbX0_has = true := by decide +kernel
theorem dzX0_has_1 : decode cX0_has 1 = .ok (.invokevirtual 23, 3) := by decide +kernel
theorem dzX0_has_21 : decode cX0_has 21 = .ok (.ireturn, 1) := by decide +kernel
set_option maxRecDepth 100000 in
theorem inX0_has : Jvm.Cond.code yX0_has cX0_has 2 ((some .boolean)) ∈ zt := List.mem_filter.mpr ⟨List.mem_append_right _ (List.mem_of_getElem? (i := 517) rfl), rfl⟩
def tbX0_setOf : List zv_I := [(0, .aload_n 0, 1, (0, 0, 0, 0, 0, 0)), (1, .getfield 9, 4, (0, 0, 1, 0, 0, 0)), (4, .iload_n 1, 5, (0, 0, 0, 0, 0, 0)), (5, .iaload, 6, (4, 0, 0, 0, 0, 0)), (6, .ireturn, 7, (0, 0, 0, 0, 0, 0))]
theorem okX0_setOf : zv_ok 2 cX0_setOf RX0 zt vwCl tbX0_setOf = true := by decide +kernel
theorem dzX0_setOf_6 : decode cX0_setOf 6 = .ok (.ireturn, 1) := by decide +kernel
set_option maxRecDepth 100000 in
theorem inX0_setOf : Jvm.Cond.code yX0_setOf cX0_setOf 2 ((some .int)) ∈ zt := List.mem_filter.mpr ⟨List.mem_append_right _ (List.mem_of_getElem? (i := 521) rfl), rfl⟩
def tbX0_numberOfLeast : List zv_I := [(0, .aload_n 0, 1, (0, 0, 0, 0, 0, 0)), (1, .invokevirtual 23, 4, (0, 0, 0, 0, 0, 0)), (4, .aload_n 0, 5, (0, 0, 0, 0, 0, 0)), (5, .iload_n 1, 6, (0, 0, 0, 0, 0, 0)), (6, .invokevirtual 29, 9, (0, 0, 0, 0, 0, 0)), (9, .istore_n 2, 10, (0, 0, 0, 0, 0, 0)), (10, .iconst 0, 11, (0, 0, 0, 0, 0, 0)), (11, .istore_n 3, 12, (0, 0, 0, 0, 0, 0)), (12, .iload_n 3, 13, (0, 0, 0, 0, 0, 0)), (13, .aload_n 0, 14, (0, 0, 0, 0, 0, 0)), (14, .getfield 26, 17, (0, 0, 2, 0, 0, 0)), (17, .if_icmp .ge 21, 20, (38, 0, 0, 0, 0, 0)), (20, .aload_n 0, 21, (0, 0, 0, 0, 0, 0)), (21, .getfield 9, 24, (0, 0, 1, 0, 0, 0)), (24, .iload_n 3, 25, (0, 0, 0, 0, 0, 0)), (25, .iaload, 26, (4, 0, 0, 0, 0, 0)), (26, .iload_n 2, 27, (0, 0, 0, 0, 0, 0)), (27, .if_icmp .ne 5, 30, (32, 0, 0, 0, 0, 0)), (30, .iload_n 3, 31, (0, 0, 0, 0, 0, 0)), (31, .ireturn, 32, (0, 0, 0, 0, 0, 0)), (32, .iinc 3 1, 35, (0, 0, 0, 0, 1, 0)), (35, .goto (-23), 38, (12, 0, 0, 0, 0, 0)), (38, .iconst (-1), 39, (0, 0, 0, 0, (-1), 0)), (39, .ireturn, 40, (0, 0, 0, 0, 0, 0))]
theorem okX0_numberOfLeast : zv_ok 4 cX0_numberOfLeast RX0 zt vwCl tbX0_numberOfLeast = true := by decide +kernel
theorem dzX0_numberOfLeast_1 : decode cX0_numberOfLeast 1 = .ok (.invokevirtual 23, 3) := by decide +kernel
theorem dzX0_numberOfLeast_6 : decode cX0_numberOfLeast 6 = .ok (.invokevirtual 29, 3) := by decide +kernel
theorem dzX0_numberOfLeast_31 : decode cX0_numberOfLeast 31 = .ok (.ireturn, 1) := by decide +kernel
theorem dzX0_numberOfLeast_39 : decode cX0_numberOfLeast 39 = .ok (.ireturn, 1) := by decide +kernel
set_option maxRecDepth 100000 in
theorem inX0_numberOfLeast : Jvm.Cond.code yX0_numberOfLeast cX0_numberOfLeast 4 ((some .int)) ∈ zt := List.mem_filter.mpr ⟨List.mem_append_right _ (List.mem_of_getElem? (i := 530) rfl), rfl⟩
def tbX0_refresh : List zv_I := [(0, .aload_n 0, 1, (0, 0, 0, 0, 0, 0)), (1, .getfield 15, 4, (0, 0, 3, 0, 0, 0)), (4, .aload_n 0, 5, (0, 0, 0, 0, 0, 0)), (5, .getfield 19, 8, (0, 0, 0, 0, 0, 0)), (8, .getfield 33, 11, (1, 4, 3, 0, 0, 0)), (11, .if_icmp .eq 18, 14, (29, 0, 0, 0, 0, 0)), (14, .aload_n 0, 15, (0, 0, 0, 0, 0, 0)), (15, .aload_n 0, 16, (0, 0, 0, 0, 0, 0)), (16, .getfield 19, 19, (0, 0, 0, 0, 0, 0)), (19, .getfield 33, 22, (1, 4, 3, 0, 0, 0)), (22, .putfield 15, 25, (0, 0, 3, 0, 0, 0)), (25, .aload_n 0, 26, (0, 0, 0, 0, 0, 0)), (26, .invokevirtual 38, 29, (0, 0, 0, 0, 0, 0)), (29, .return_, 30, (0, 0, 0, 0, 0, 0))]
theorem okX0_refresh : zv_ok 1 cX0_refresh RX0 zt vwCl tbX0_refresh = true := by decide +kernel
theorem dzX0_refresh_26 : decode cX0_refresh 26 = .ok (.invokevirtual 38, 3) := by decide +kernel
theorem dzX0_refresh_29 : decode cX0_refresh 29 = .ok (.return_, 1) := by decide +kernel
set_option maxRecDepth 100000 in
theorem inX0_refresh : Jvm.Cond.code yX0_refresh cX0_refresh 1 none ∈ zt := List.mem_filter.mpr ⟨List.mem_append_right _ (List.mem_of_getElem? (i := 376) rfl), rfl⟩
def tbX0_list : List zv_I := [(0, .aload_n 0, 1, (0, 0, 0, 0, 0, 0)), (1, .getfield 19, 4, (0, 0, 0, 0, 0, 0)), (4, .invokevirtual 41, 7, (0, 0, 0, 0, 0, 0)), (7, .istore_n 1, 8, (0, 0, 0, 0, 0, 0)), (8, .aload_n 0, 9, (0, 0, 0, 0, 0, 0)), (9, .iconst 0, 10, (0, 0, 0, 0, 0, 0)), (10, .invokevirtual 29, 13, (0, 0, 0, 0, 0, 0)), (13, .istore_n 2, 14, (0, 0, 0, 0, 0, 0)), (14, .aload_n 0, 15, (0, 0, 0, 0, 0, 0)), (15, .iconst 0, 16, (0, 0, 0, 0, 0, 0)), (16, .putfield 26, 19, (0, 0, 2, 0, 0, 0)), (19, .iconst 0, 20, (0, 0, 0, 0, 0, 0)), (20, .istore_n 3, 21, (0, 0, 0, 0, 0, 0)), (21, .iload_n 3, 22, (0, 0, 0, 0, 0, 0)), (22, .iload_n 1, 23, (0, 0, 0, 0, 0, 0)), (23, .if_icmp .ge 25, 26, (48, 0, 0, 0, 0, 0)), (26, .iload_n 2, 27, (0, 0, 0, 0, 0, 0)), (27, .iload_n 1, 28, (0, 0, 0, 0, 0, 0)), (28, .if_icmp .eq 20, 31, (48, 0, 0, 0, 0, 0)), (31, .aload_n 0, 32, (0, 0, 0, 0, 0, 0)), (32, .iload_n 2, 33, (0, 0, 0, 0, 0, 0)), (33, .invokevirtual 45, 36, (0, 0, 0, 0, 0, 0)), (36, .aload_n 0, 37, (0, 0, 0, 0, 0, 0)), (37, .iload_n 2, 38, (0, 0, 0, 0, 0, 0)), (38, .invokevirtual 49, 41, (0, 0, 0, 0, 0, 0)), (41, .istore_n 2, 42, (0, 0, 0, 0, 0, 0)), (42, .iinc 3 1, 45, (0, 0, 0, 0, 1, 0)), (45, .goto (-24), 48, (21, 0, 0, 0, 0, 0)), (48, .aload_n 0, 49, (0, 0, 0, 0, 0, 0)), (49, .iload_n 1, 50, (0, 0, 0, 0, 0, 0)), (50, .invokevirtual 45, 53, (0, 0, 0, 0, 0, 0)), (53, .return_, 54, (0, 0, 0, 0, 0, 0))]
theorem okX0_list : zv_ok 4 cX0_list RX0 zt vwCl tbX0_list = true := by decide +kernel
theorem dzX0_list_4 : decode cX0_list 4 = .ok (.invokevirtual 41, 3) := by decide +kernel
theorem dzX0_list_10 : decode cX0_list 10 = .ok (.invokevirtual 29, 3) := by decide +kernel
theorem dzX0_list_33 : decode cX0_list 33 = .ok (.invokevirtual 45, 3) := by decide +kernel
theorem dzX0_list_38 : decode cX0_list 38 = .ok (.invokevirtual 49, 3) := by decide +kernel
theorem dzX0_list_50 : decode cX0_list 50 = .ok (.invokevirtual 45, 3) := by decide +kernel
theorem dzX0_list_53 : decode cX0_list 53 = .ok (.return_, 1) := by decide +kernel
set_option maxRecDepth 100000 in
theorem inX0_list : Jvm.Cond.code yX0_list cX0_list 4 none ∈ zt := List.mem_filter.mpr ⟨List.mem_append_right _ (List.mem_of_getElem? (i := 380) rfl), rfl⟩
def tbX0_append : List zv_I := [(0, .aload_n 0, 1, (0, 0, 0, 0, 0, 0)), (1, .getfield 26, 4, (0, 0, 2, 0, 0, 0)), (4, .aload_n 0, 5, (0, 0, 0, 0, 0, 0)), (5, .getfield 9, 8, (0, 0, 1, 0, 0, 0)), (8, .arraylength, 9, (4, 0, 0, 0, 0, 0)), (9, .if_icmp .ne 20, 12, (29, 0, 0, 0, 0, 0)), (12, .aload_n 0, 13, (0, 0, 0, 0, 0, 0)), (13, .aload_n 0, 14, (0, 0, 0, 0, 0, 0)), (14, .getfield 9, 17, (0, 0, 1, 0, 0, 0)), (17, .iconst 2, 18, (0, 0, 0, 0, 2, 0)), (18, .aload_n 0, 19, (0, 0, 0, 0, 0, 0)), (19, .getfield 26, 22, (0, 0, 2, 0, 0, 0)), (22, .imul, 23, (0, 0, 0, 0, 0, 0)), (23, .invokestatic 52, 26, (0, 0, 0, 0, 0, 0)), (26, .putfield 9, 29, (0, 0, 1, 2, 0, 0)), (29, .aload_n 0, 30, (0, 0, 0, 0, 0, 0)), (30, .getfield 9, 33, (0, 0, 1, 0, 0, 0)), (33, .aload_n 0, 34, (0, 0, 0, 0, 0, 0)), (34, .getfield 26, 37, (0, 0, 2, 0, 0, 0)), (37, .iload_n 1, 38, (0, 0, 0, 0, 0, 0)), (38, .iastore, 39, (4, 0, 0, 0, 0, 0)), (39, .aload_n 0, 40, (0, 0, 0, 0, 0, 0)), (40, .dup, 41, (0, 0, 0, 0, 0, 0)), (41, .getfield 26, 44, (0, 0, 2, 0, 0, 0)), (44, .iconst 1, 45, (0, 0, 0, 0, 1, 0)), (45, .iadd, 46, (0, 0, 0, 0, 0, 0)), (46, .putfield 26, 49, (0, 0, 2, 0, 0, 0)), (49, .return_, 50, (0, 0, 0, 0, 0, 0))]
theorem okX0_append : zv_ok 2 cX0_append RX0 zt vwCl tbX0_append = true := by decide +kernel
theorem dzX0_append_23 : decode cX0_append 23 = .ok (.invokestatic 52, 3) := by decide +kernel
theorem dzX0_append_49 : decode cX0_append 49 = .ok (.return_, 1) := by decide +kernel
set_option maxRecDepth 100000 in
theorem inX0_append : Jvm.Cond.code yX0_append cX0_append 2 none ∈ zt := List.mem_filter.mpr ⟨List.mem_append_right _ (List.mem_of_getElem? (i := 391) rfl), rfl⟩
def tbX0_following : List zv_I := [(0, .iconst 0, 1, (0, 0, 0, 0, 0, 0)), (1, .istore_n 2, 2, (0, 0, 0, 0, 0, 0)), (2, .iload_n 2, 3, (0, 0, 0, 0, 0, 0)), (3, .aload_n 0, 4, (0, 0, 0, 0, 0, 0)), (4, .getfield 19, 7, (0, 0, 0, 0, 0, 0)), (7, .getfield 58, 10, (1, 4, 2, 0, 0, 0)), (10, .if_icmp .ge 49, 13, (59, 0, 0, 0, 0, 0)), (13, .iload_n 1, 14, (0, 0, 0, 0, 0, 0)), (14, .iconst 1, 15, (0, 0, 0, 0, 1, 0)), (15, .iload_n 2, 16, (0, 0, 0, 0, 0, 0)), (16, .ishl, 17, (0, 0, 0, 0, 0, 0)), (17, .iand, 18, (0, 0, 0, 0, 0, 0)), (18, .ifCond .ne 35, 21, (53, 0, 0, 0, 0, 0)), (21, .iload_n 1, 22, (0, 0, 0, 0, 0, 0)), (22, .iconst 1, 23, (0, 0, 0, 0, 1, 0)), (23, .iload_n 2, 24, (0, 0, 0, 0, 0, 0)), (24, .ishl, 25, (0, 0, 0, 0, 0, 0)), (25, .ineg, 26, (0, 0, 0, 0, 0, 0)), (26, .iand, 27, (0, 0, 0, 0, 0, 0)), (27, .iconst 1, 28, (0, 0, 0, 0, 1, 0)), (28, .iload_n 2, 29, (0, 0, 0, 0, 0, 0)), (29, .ishl, 30, (0, 0, 0, 0, 0, 0)), (30, .ior, 31, (0, 0, 0, 0, 0, 0)), (31, .istore_n 3, 32, (0, 0, 0, 0, 0, 0)), (32, .aload_n 0, 33, (0, 0, 0, 0, 0, 0)), (33, .iload_n 3, 34, (0, 0, 0, 0, 0, 0)), (34, .invokevirtual 29, 37, (0, 0, 0, 0, 0, 0)), (37, .istore 4, 39, (0, 0, 0, 0, 0, 0)), (39, .iload 4, 41, (0, 0, 0, 0, 0, 0)), (41, .iconst 1, 42, (0, 0, 0, 0, 1, 0)), (42, .iload_n 2, 43, (0, 0, 0, 0, 0, 0)), (43, .ishl, 44, (0, 0, 0, 0, 0, 0)), (44, .ineg, 45, (0, 0, 0, 0, 0, 0)), (45, .iand, 46, (0, 0, 0, 0, 0, 0)), (46, .iload_n 3, 47, (0, 0, 0, 0, 0, 0)), (47, .if_icmp .ne 6, 50, (53, 0, 0, 0, 0, 0)), (50, .iload 4, 52, (0, 0, 0, 0, 0, 0)), (52, .ireturn, 53, (0, 0, 0, 0, 0, 0)), (53, .iinc 2 1, 56, (0, 0, 0, 0, 1, 0)), (56, .goto (-54), 59, (2, 0, 0, 0, 0, 0)), (59, .aload_n 0, 60, (0, 0, 0, 0, 0, 0)), (60, .getfield 19, 63, (0, 0, 0, 0, 0, 0)), (63, .invokevirtual 41, 66, (0, 0, 0, 0, 0, 0)), (66, .ireturn, 67, (0, 0, 0, 0, 0, 0))]
theorem okX0_following : zv_ok 5 cX0_following RX0 zt vwCl tbX0_following = true := by decide +kernel
theorem dzX0_following_34 : decode cX0_following 34 = .ok (.invokevirtual 29, 3) := by decide +kernel
theorem dzX0_following_52 : decode cX0_following 52 = .ok (.ireturn, 1) := by decide +kernel
theorem dzX0_following_63 : decode cX0_following 63 = .ok (.invokevirtual 41, 3) := by decide +kernel
theorem dzX0_following_66 : decode cX0_following 66 = .ok (.ireturn, 1) := by decide +kernel
set_option maxRecDepth 100000 in
theorem inX0_following : Jvm.Cond.code yX0_following cX0_following 5 ((some .int)) ∈ zt := List.mem_filter.mpr ⟨List.mem_append_right _ (List.mem_of_getElem? (i := 411) rfl), rfl⟩
def tbX0_close : List zv_I := [(0, .aload_n 0, 1, (0, 0, 0, 0, 0, 0)), (1, .getfield 19, 4, (0, 0, 0, 0, 0, 0)), (4, .invokevirtual 41, 7, (0, 0, 0, 0, 0, 0)), (7, .istore_n 2, 8, (0, 0, 0, 0, 0, 0)), (8, .iconst 0, 9, (0, 0, 0, 0, 0, 0)), (9, .istore_n 3, 10, (0, 0, 0, 0, 0, 0)), (10, .iload_n 3, 11, (0, 0, 0, 0, 0, 0)), (11, .aload_n 0, 12, (0, 0, 0, 0, 0, 0)), (12, .getfield 19, 15, (0, 0, 0, 0, 0, 0)), (15, .getfield 58, 18, (1, 4, 2, 0, 0, 0)), (18, .if_icmp .ge 28, 21, (46, 0, 0, 0, 0, 0)), (21, .iload_n 1, 22, (0, 0, 0, 0, 0, 0)), (22, .iconst 1, 23, (0, 0, 0, 0, 1, 0)), (23, .iload_n 3, 24, (0, 0, 0, 0, 0, 0)), (24, .ishl, 25, (0, 0, 0, 0, 0, 0)), (25, .iand, 26, (0, 0, 0, 0, 0, 0)), (26, .ifCond .eq 14, 29, (40, 0, 0, 0, 0, 0)), (29, .iload_n 2, 30, (0, 0, 0, 0, 0, 0)), (30, .aload_n 0, 31, (0, 0, 0, 0, 0, 0)), (31, .getfield 19, 34, (0, 0, 0, 0, 0, 0)), (34, .iload_n 3, 35, (0, 0, 0, 0, 0, 0)), (35, .invokevirtual 61, 38, (0, 0, 0, 0, 0, 0)), (38, .iand, 39, (0, 0, 0, 0, 0, 0)), (39, .istore_n 2, 40, (0, 0, 0, 0, 0, 0)), (40, .iinc 3 1, 43, (0, 0, 0, 0, 1, 0)), (43, .goto (-33), 46, (10, 0, 0, 0, 0, 0)), (46, .aload_n 0, 47, (0, 0, 0, 0, 0, 0)), (47, .getfield 19, 50, (0, 0, 0, 0, 0, 0)), (50, .invokevirtual 41, 53, (0, 0, 0, 0, 0, 0)), (53, .istore_n 3, 54, (0, 0, 0, 0, 0, 0)), (54, .iconst 0, 55, (0, 0, 0, 0, 0, 0)), (55, .istore 4, 57, (0, 0, 0, 0, 0, 0)), (57, .iload 4, 59, (0, 0, 0, 0, 0, 0)), (59, .aload_n 0, 60, (0, 0, 0, 0, 0, 0)), (60, .getfield 19, 63, (0, 0, 0, 0, 0, 0)), (63, .getfield 58, 66, (1, 4, 2, 0, 0, 0)), (66, .if_icmp .ge 30, 69, (96, 0, 0, 0, 0, 0)), (69, .iload_n 2, 70, (0, 0, 0, 0, 0, 0)), (70, .iconst 1, 71, (0, 0, 0, 0, 1, 0)), (71, .iload 4, 73, (0, 0, 0, 0, 0, 0)), (73, .ishl, 74, (0, 0, 0, 0, 0, 0)), (74, .iand, 75, (0, 0, 0, 0, 0, 0)), (75, .ifCond .eq 15, 78, (90, 0, 0, 0, 0, 0)), (78, .iload_n 3, 79, (0, 0, 0, 0, 0, 0)), (79, .aload_n 0, 80, (0, 0, 0, 0, 0, 0)), (80, .getfield 19, 83, (0, 0, 0, 0, 0, 0)), (83, .iload 4, 85, (0, 0, 0, 0, 0, 0)), (85, .invokevirtual 64, 88, (0, 0, 0, 0, 0, 0)), (88, .iand, 89, (0, 0, 0, 0, 0, 0)), (89, .istore_n 3, 90, (0, 0, 0, 0, 0, 0)), (90, .iinc 4 1, 93, (0, 0, 0, 0, 1, 0)), (93, .goto (-36), 96, (57, 0, 0, 0, 0, 0)), (96, .iload_n 3, 97, (0, 0, 0, 0, 0, 0)), (97, .ireturn, 98, (0, 0, 0, 0, 0, 0))]
theorem okX0_close : zv_ok 5 cX0_close RX0 zt vwCl tbX0_close = true := by decide +kernel
theorem dzX0_close_4 : decode cX0_close 4 = .ok (.invokevirtual 41, 3) := by decide +kernel
theorem dzX0_close_35 : decode cX0_close 35 = .ok (.invokevirtual 61, 3) := by decide +kernel
theorem dzX0_close_50 : decode cX0_close 50 = .ok (.invokevirtual 41, 3) := by decide +kernel
theorem dzX0_close_85 : decode cX0_close 85 = .ok (.invokevirtual 64, 3) := by decide +kernel
theorem dzX0_close_97 : decode cX0_close 97 = .ok (.ireturn, 1) := by decide +kernel
set_option maxRecDepth 100000 in
theorem inX0_close : Jvm.Cond.code yX0_close cX0_close 5 ((some .int)) ∈ zt := List.mem_filter.mpr ⟨List.mem_append_right _ (List.mem_of_getElem? (i := 385) rfl), rfl⟩
end
section
/-! CUT LIST: close, following, append -/
abbrev wC (K : zK) (c o b a y : Nat) (bl ab : Nat → Nat) (n : Nat) (ver : Int32) (sf : Nat → Int32) (cap : Nat) (len seen : Int32) : va_W := [(c, .inr (0, [.ref o, .ref y, .int len, .int seen])), (o, .inr (4, [.ref b, .ref a, .int (nI n), .int ver])), (b, .inl (cI K, 14, .inl (fun j => nI (bl j)))), (a, .inl (cI K, 14, .inl (fun j => nI (ab j)))), (y, .inl (cI K, cap, .inl sf))]
/-- all of n things that are in each of the sets r v with v in s, v < k -/
def clU (r : Nat → Nat) (n s : Nat) : Nat → Nat
  | 0 => 2 ^ n - 1
  | k + 1 => if s.testBit k = true then clU r n s k &&& (r k ||| 2 ^ k) else clU r n s k
theorem clU_lt {r : Nat → Nat} {n s : Nat} (hn : n ≤ 14) : ∀ k, clU r n s k < 2 ^ 14
  | 0 => nb_all_lt hn
  | k + 1 => by
    have h := clU_lt (r := r) (s := s) hn k
    unfold clU
    split
    · exact Nat.lt_of_le_of_lt Nat.and_le_left h
    · exact h
def clo (bl ab : Nat → Nat) (n s : Nat) : Nat := clU bl n (clU ab n s n) n
theorem clo_lt {bl ab : Nat → Nat} {n s : Nat} (hn : n ≤ 14) : clo bl ab n s < 2 ^ 14 := clU_lt hn n
set_option maxHeartbeats 4000000 in
set_option maxRecDepth 100000 in
theorem c_close (K : zK) (c o b a y : Nat) (bl ab : Nat → Nat) (n : Nat) (ver : Int32) (sf : Nat → Int32) (cap : Nat) (len seen : Int32) {s : Nat} (hs : s < 2 ^ 14) (hn : n ≤ 14) :
    zD K yX0_close cX0_close 5 (some .int) (zq 1 0 0 21) [.ref c, .int (nI s)] (wC K c o b a y bl ab n ver sf cap len seen) (some (.int (nI (clo bl ab n s)))) (wC K c o b a y bl ab n ver sf cap len seen) := by
  refine zo (by decide) (Nat.le_of_ble_eq_true rfl) fun x C R _ => ?_
  have hov := clU_lt (r := ab) (n := n) (s := s) hn n
  have loop2 : ∀ mm k, k + mm = n → zv_V x (gz K (zq 1 0 0 21) 5 cX0_close yX0_close.cls) 57 [(0, .ref c), (1, .int (nI s)), (2, .int (nI (clU ab n s n))), (3, .int (nI (clU bl n (clU ab n s n) k))), (4, .int (nI k))] [] (wC K c o b a y bl ab n ver sf cap len seen) 0 0 := by
    intro mm
    induction mm with
    | zero =>
      intro k hk
      have e : k = n := by omega
      subst e
      refine zv_go C okX0_close [] 20 ?_
      refine ⟨rfl, rfl, fun _ => ?_, fun h => absurd (nI_le (Nat.le_refl _) (by omega)) h⟩
      exact zr R () [0, 1, 2, 3, 4] (some (.int _)) _ rfl rfl trivial rfl rfl (Nat.le_refl _) (Nat.le_refl _) dzX0_close_97
    | succ mm ih =>
      intro k hk
      refine zv_go C okX0_close [57] 30 ?_
      refine ⟨rfl, rfl, fun h => absurd h (nI_ge (by omega) (by omega)), fun _ => ⟨fun h => ?_, fun h => ⟨rfl, ?_⟩⟩⟩
      · rw [nb_t0 (Nat.lt_trans hov (by decide)) (by omega)] at h
        refine zv_to C (lv' := [(0, .ref c), (1, .int (nI s)), (2, .int (nI (clU ab n s n))), (3, .int (nI (clU bl n (clU ab n s n) (k + 1)))), (4, .int (nI (k + 1)))]) ?_ rfl rfl (ih (k + 1) (by omega))
        rw [clU.eq_2 bl n (clU ab n s n) k, if_neg (by rw [h]; decide), ← nI_1]
        rfl
      · rw [nb_t1 (Nat.lt_trans hov (by decide)) (by omega)] at h
        refine zv_callV C (c_downFrom K o b a bl ab n ver (i := k) (by omega)) (zw_V inX4_downFrom kX0_64 ⟨by decide, by decide⟩) [1, 2, 3] 1 rfl rfl rfl rfl (fun _ => Nat.le_refl _) (rest := [.int (nI (clU bl n (clU ab n s n) k))]) rfl rfl (Nat.le_of_ble_eq_true rfl) dzX0_close_85 (by decide) (by decide) rfl (fun _ _ => ?_)
        refine zv_to C rfl rfl (ws' := wC K c o b a y bl ab n ver sf cap len seen) rfl ?_
        refine zv_go C okX0_close [57] 30 ?_
        refine zv_to C (lv' := [(0, .ref c), (1, .int (nI s)), (2, .int (nI (clU ab n s n))), (3, .int (nI (clU bl n (clU ab n s n) (k + 1)))), (4, .int (nI (k + 1)))]) ?_ rfl rfl (ih (k + 1) (by omega))
        rw [clU.eq_2 bl n (clU ab n s n) k, if_pos h, ← nI_1, ← nb_and]
        rfl
  have loop1 : ∀ mm k, k + mm = n → zv_V x (gz K (zq 1 0 0 21) 5 cX0_close yX0_close.cls) 10 [(0, .ref c), (1, .int (nI s)), (2, .int (nI (clU ab n s k))), (3, .int (nI k))] [] (wC K c o b a y bl ab n ver sf cap len seen) 0 0 := by
    intro mm
    induction mm with
    | zero =>
      intro k hk
      have e : k = n := by omega
      subst e
      refine zv_go C okX0_close [] 20 ?_
      refine ⟨rfl, rfl, fun _ => ⟨rfl, ?_⟩, fun h => absurd (nI_le (Nat.le_refl _) (by omega)) h⟩
      refine zv_callV C (c_all K o b a bl ab k ver hn) (zw_V inX4_all kX0_41 ⟨by decide, by decide⟩) [1, 2, 3] 1 rfl rfl rfl rfl (fun _ => Nat.le_refl _) rfl rfl (by decide) dzX0_close_50 (by decide) (by decide) rfl (fun _ _ => ?_)
      refine zv_to C rfl rfl (ws' := wC K c o b a y bl ab k ver sf cap len seen) rfl ?_
      refine zv_go C okX0_close [57] 20 ?_
      exact loop2 k 0 (by omega)
    | succ mm ih =>
      intro k hk
      refine zv_go C okX0_close [10] 30 ?_
      refine ⟨rfl, rfl, fun h => absurd h (nI_ge (by omega) (by omega)), fun _ => ⟨fun h => ?_, fun h => ⟨rfl, ?_⟩⟩⟩
      · rw [nb_t0 (Nat.lt_trans hs (by decide)) (by omega)] at h
        refine zv_to C (lv' := [(0, .ref c), (1, .int (nI s)), (2, .int (nI (clU ab n s (k + 1)))), (3, .int (nI (k + 1)))]) ?_ rfl rfl (ih (k + 1) (by omega))
        rw [clU.eq_2, if_neg (by rw [h]; decide), ← nI_1]
        rfl
      · rw [nb_t1 (Nat.lt_trans hs (by decide)) (by omega)] at h
        refine zv_callV C (c_upFrom K o b a bl ab n ver (i := k) (by omega)) (zw_V inX4_upFrom kX0_61 ⟨by decide, by decide⟩) [1, 2, 3] 1 rfl rfl rfl rfl (fun _ => Nat.le_refl _) (rest := [.int (nI (clU ab n s k))]) rfl rfl (Nat.le_of_ble_eq_true rfl) dzX0_close_35 (by decide) (by decide) rfl (fun _ _ => ?_)
        refine zv_to C rfl rfl (ws' := wC K c o b a y bl ab n ver sf cap len seen) rfl ?_
        refine zv_go C okX0_close [10] 30 ?_
        refine zv_to C (lv' := [(0, .ref c), (1, .int (nI s)), (2, .int (nI (clU ab n s (k + 1)))), (3, .int (nI (k + 1)))]) ?_ rfl rfl (ih (k + 1) (by omega))
        rw [clU.eq_2, if_pos h, ← nI_1, ← nb_and]
        rfl
  refine zv_go C okX0_close [] 2 ?_
  refine ⟨rfl, ?_⟩
  refine zv_callV C (c_all K o b a bl ab n ver hn) (zw_V inX4_all kX0_41 ⟨by decide, by decide⟩) [1, 2, 3] 1 rfl rfl rfl rfl (fun _ => Nat.le_refl _) rfl rfl (by decide) dzX0_close_4 (by decide) (by decide) rfl (fun _ _ => ?_)
  refine zv_to C rfl rfl (ws' := wC K c o b a y bl ab n ver sf cap len seen) rfl ?_
  refine zv_go C okX0_close [10] 20 ?_
  exact loop1 n 0 (by omega)
def flw (bl ab : Nat → Nat) (n s : Nat) : Nat → Nat
  | 0 => 2 ^ n - 1
  | m + 1 => if s.testBit (n - (m + 1)) = false ∧ nhi (clo bl ab n (nhi s (n - (m + 1)) ||| 2 ^ (n - (m + 1)))) (n - (m + 1)) = nhi s (n - (m + 1)) ||| 2 ^ (n - (m + 1)) then clo bl ab n (nhi s (n - (m + 1)) ||| 2 ^ (n - (m + 1))) else flw bl ab n s m
theorem nhi_le (s v : Nat) : nhi s v ≤ s := by
  unfold nhi
  rw [Nat.shiftLeft_eq, Nat.shiftRight_eq_div_pow]
  exact Nat.div_mul_le_self _ _
theorem flw_lt {bl ab : Nat → Nat} {n s : Nat} (hn : n ≤ 14) : ∀ m, flw bl ab n s m < 2 ^ 14
  | 0 => nb_all_lt hn
  | m + 1 => by
    unfold flw
    split
    · exact clo_lt hn
    · exact flw_lt hn m
set_option maxHeartbeats 4000000 in
set_option maxRecDepth 100000 in
theorem c_following (K : zK) (c o b a y : Nat) (bl ab : Nat → Nat) (n : Nat) (ver : Int32) (sf : Nat → Int32) (cap : Nat) (len seen : Int32) {s : Nat} (hs : s < 2 ^ 14) (hn : n ≤ 14) :
    zD K yX0_following cX0_following 5 (some .int) (zq 2 0 0 45) [.ref c, .int (nI s)] (wC K c o b a y bl ab n ver sf cap len seen) (some (.int (nI (flw bl ab n s n)))) (wC K c o b a y bl ab n ver sf cap len seen) := by
  refine zo (by decide) (Nat.le_of_ble_eq_true rfl) fun x C R _ => ?_
  have loop : ∀ mm (lv2 : zv_L), mm ≤ n → flw bl ab n s mm = flw bl ab n s n → (lv2 = [] ∨ ∃ z w, lv2 = [(3, .int z), (4, .int w)]) → zv_V x (gz K (zq 2 0 0 45) 5 cX0_following yX0_following.cls) 2 ([(0, .ref c), (1, .int (nI s)), (2, .int (nI (n - mm)))] ++ lv2) [] (wC K c o b a y bl ab n ver sf cap len seen) 0 0 := by
    intro mm
    induction mm with
    | zero =>
      intro lv2 _ he hl2
      refine zv_drop C [0, 1, 2] (lv' := [(0, .ref c), (1, .int (nI s)), (2, .int (nI (n - 0)))]) (by rcases hl2 with rfl | ⟨z, w, rfl⟩ <;> rfl) ?_
      refine zv_go C okX0_following [] 20 ?_
      refine ⟨rfl, rfl, fun _ => ⟨rfl, ?_⟩, fun h => absurd (nI_le (by omega) (by omega)) h⟩
      refine zv_callV C (c_all K o b a bl ab n ver hn) (zw_V inX4_all kX0_41 ⟨by decide, by decide⟩) [1, 2, 3] 1 rfl rfl rfl rfl (fun _ => Nat.le_refl _) rfl rfl (by decide) dzX0_following_63 (by decide) (by decide) rfl (fun _ _ => ?_)
      exact zr R () [0, 1, 2, 3, 4] (some (.int _)) _ (by rw [← he] <;> rfl) rfl trivial rfl rfl (Nat.le_refl _) (Nat.le_refl _) dzX0_following_66
    | succ mm ih =>
      intro lv2 hm he hl2
      have enx : nI (n - (mm + 1)) + 1 = nI (n - mm) := by rw [nI_1]; congr 1; omega
      have hg : nhi s (n - (mm + 1)) ||| 2 ^ (n - (mm + 1)) < 2 ^ 14 := nb_lt_or (Nat.lt_of_le_of_lt (nhi_le _ _) hs) (nb_lt_pow (by omega))
      refine zv_drop C [0, 1, 2] (lv' := [(0, .ref c), (1, .int (nI s)), (2, .int (nI (n - (mm + 1))))]) (by rcases hl2 with rfl | ⟨z, w, rfl⟩ <;> rfl) ?_
      refine zv_go C okX0_following [2] 40 ?_
      refine ⟨rfl, rfl, fun h => absurd h (nI_ge (by omega) (by omega)), fun _ => ⟨fun h => ?_, fun h => ?_⟩⟩
      · rw [nb_t1 (Nat.lt_trans hs (by decide)) (by omega)] at h
        rw [flw, if_neg (fun q => by rw [q.1] at h; cases h)] at he
        exact zv_to C (lv' := [(0, .ref c), (1, .int (nI s)), (2, .int (nI (n - mm)))]) (by rw [← enx] <;> rfl) rfl rfl (ih [] (by omega) he (Or.inl rfl))
      · rw [nb_t0 (Nat.lt_trans hs (by decide)) (by omega)] at h
        refine zv_to C (lv' := [(0, .ref c), (1, .int (nI s)), (2, .int (nI (n - (mm + 1)))), (3, .int (nI (nhi s (n - (mm + 1)) ||| 2 ^ (n - (mm + 1)))))]) ?_ (st' := [.int (nI (nhi s (n - (mm + 1)) ||| 2 ^ (n - (mm + 1)))), .ref c]) ?_ rfl ?_
        · rw [← nb_or, ← nb_hi _ _ (by omega), ← nb_1s _ (by omega)] <;> rfl
        · rw [← nb_or, ← nb_hi _ _ (by omega), ← nb_1s _ (by omega)] <;> rfl
        refine zv_callV C (c_close K c o b a y bl ab n ver sf cap len seen hg hn) (zw_V inX0_close kX0_29 ⟨by decide, by decide⟩) [0, 1, 2, 3, 4] 0 rfl rfl rfl rfl (fun _ => Nat.le_refl _) rfl rfl (by decide) dzX0_following_34 (by decide) (by decide) rfl (fun _ _ => ?_)
        refine zv_to C rfl rfl (ws' := wC K c o b a y bl ab n ver sf cap len seen) rfl ?_
        refine zv_go C okX0_following [2] 40 ?_
        have hcl : nhi (clo bl ab n (nhi s (n - (mm + 1)) ||| 2 ^ (n - (mm + 1)))) (n - (mm + 1)) < 2 ^ 32 := Nat.lt_of_le_of_lt (nhi_le _ _) (Nat.lt_trans (clo_lt hn) (by decide))
        refine ⟨fun h2 => ?_, fun h2 => ?_⟩
        · rw [nb_hi _ _ (by omega), nb_inj hcl (Nat.lt_trans hg (by decide))] at h2
          rw [flw, if_neg (fun q => h2 q.2)] at he
          exact zv_to C (lv' := [(0, .ref c), (1, .int (nI s)), (2, .int (nI (n - mm))), (3, .int (nI (nhi s (n - (mm + 1)) ||| 2 ^ (n - (mm + 1))))), (4, .int (nI (clo bl ab n (nhi s (n - (mm + 1)) ||| 2 ^ (n - (mm + 1))))))]) (by rw [← enx] <;> rfl) rfl rfl (ih [_, _] (by omega) he (Or.inr ⟨_, _, rfl⟩))
        · rw [nb_hi _ _ (by omega), nb_inj hcl (Nat.lt_trans hg (by decide))] at h2
          rw [flw, if_pos ⟨h, h2⟩] at he
          exact zr R () [0, 1, 2, 3, 4] (some (.int _)) _ (by rw [← he] <;> rfl) rfl trivial rfl rfl (Nat.le_refl _) (Nat.le_refl _) dzX0_following_52
  refine zv_go C okX0_following [2] 20 ?_
  exact zv_to C (lv' := [(0, .ref c), (1, .int (nI s)), (2, .int (nI (n - n)))]) (by rw [Nat.sub_self] <;> rfl) rfl rfl (loop n [] (Nat.le_refl _) rfl (Or.inl rfl))
/-- an array's room behind one more item -/
def capN (cap L : Nat) : Nat := if L = cap then 2 * cap else cap
theorem capN_le (cap L : Nat) : cap ≤ capN cap L := by
  unfold capN
  split <;> omega
set_option maxHeartbeats 4000000 in
set_option maxRecDepth 100000 in
theorem c_append (K : zK) (c o b a y : Nat) (bl ab : Nat → Nat) (n : Nat) (ver : Int32) (sf : Nat → Int32) (cap L : Nat) (seen : Int32) (s : Nat) (h0 : 0 < cap) (hL : L ≤ cap) (hL2 : L ≤ 16384) (hcap : cap ≤ 65536) :
    zM (S := Nat × (Nat → Int32)) K yX0_append cX0_append 2 none (zq 2 (capN cap L - cap) (2 * (capN cap L - cap)) 82) [.ref c, .int (nI s)] (wC K c o b a y bl ab n ver sf cap (nI L) seen) (fun u => (∀ j, j < L → u.2 j = sf j) ∧ u.2 L = nI s) (fun _ => none) (fun u => wC K c o b a u.1 bl ab n ver u.2 (capN cap L) (nI (L + 1)) seen) := by
  refine zo (by decide) (Nat.le_of_ble_eq_true rfl) fun x C R _ => ?_
  have ec : (nI L).toNatClampNeg = L := nI_clamp (by omega)
  refine zv_go C okX0_append [] 20 ?_
  refine ⟨rfl, rfl, ⟨rfl, rfl⟩, fun h => ⟨rfl, rfl, ⟨rfl, rfl⟩, ?_, rfl, rfl, ?_⟩, fun h => ⟨rfl, rfl, ?_⟩⟩
  · -- it fits
    rw [nb_inj (by omega) (by omega)] at h
    exact vp_in_nI (by omega) (by omega)
  · rw [nb_inj (by omega) (by omega)] at h
    have e : capN cap L = cap := if_neg h
    refine zr R (y, upd sf L (nI s)) [0, 1, 2, 3, 4] none (wC K c o b a y bl ab n ver (upd sf L (nI s)) cap (nI (L + 1)) seen) rfl (by rw [e]) ⟨fun j hj => pk_un (by omega), pk_us⟩ ?_ rfl (Nat.zero_le _) (Nat.zero_le _) dzX0_append_49
    rw [← nI_1]
    show [some _, some _, some _, some _, some (y, Sum.inl (cI K, cap, Sum.inl (upd sf (nI L).toNatClampNeg (nI s))))] = _
    rw [ec]
    rfl
  · -- it grows
    have h : nI L = nI cap := h
    rw [nb_inj (by omega) (by omega)] at h
    subst h
    have e : capN L L = 2 * L := if_pos rfl
    refine zv_to C rfl (st' := [.int (nI (2 * L)), .ref y, .ref c]) ?_ rfl ?_
    · show [Value.int (nI 2 * nI L), Value.ref y, Value.ref c] = _
      rw [pk_mul]
    refine zv_callS C (c_copyOf K y L (2 * L) sf (by omega) (by omega)) (zw_S inJ7_copyOf_59c91 kX0_52 ⟨by show 1 + 1 ≤ 2; omega, by show 8 + (3 + 11) + 60 ≤ 82; omega⟩) [4] rfl rfl (fun _ => by show 1 ≤ 2; omega) (rest := [.ref c]) rfl rfl (Nat.le_of_ble_eq_true rfl) dzX0_append_23 (by show 0 + 1 ≤ capN L L - L; rw [e]; omega) (by show 0 + 2 * L ≤ 2 * (capN L L - L); rw [e]; omega) rfl (fun u _ => ?_)
    refine zv_cells C [0, 1, 2, 3, 5] rfl (ws' := wC K c o b a y bl ab n ver sf L (nI L) seen |>.set 4 (u, .inl (cI K, 2 * L, .inl (fun j => if j < L then sf j else 0)))) rfl ?_
    refine zv_to C rfl rfl (ws' := [(c, .inr (0, [.ref o, .ref y, .int (nI L), .int seen])), (o, .inr (4, [.ref b, .ref a, .int (nI n), .int ver])), (b, .inl (cI K, 14, .inl (fun j => nI (bl j)))), (a, .inl (cI K, 14, .inl (fun j => nI (ab j)))), (u, .inl (cI K, 2 * L, .inl (fun j => if j < L then sf j else 0)))]) rfl ?_
    refine zv_go C okX0_append [] 20 ?_
    refine ⟨rfl, rfl, rfl, ⟨rfl, rfl⟩, vp_in_nI (by omega) (by omega), rfl, rfl, ?_⟩
    refine zr R (u, upd (fun j => if j < L then sf j else 0) L (nI s)) [0, 1, 2, 3, 4] none (wC K c o b a u bl ab n ver (upd (fun j => if j < L then sf j else 0) L (nI s)) (2 * L) (nI (L + 1)) seen) rfl (by rw [e]) ⟨fun j hj => by show upd (fun j => if j < L then sf j else 0) L (nI s) j = sf j; rw [pk_un (by omega)]; exact if_pos hj, show upd (fun j => if j < L then sf j else 0) L (nI s) L = nI s from pk_us⟩ ?_ rfl (by show 0 + 1 ≤ capN L L - L; rw [e]; omega) (by show 0 + 2 * L ≤ 2 * (capN L L - L); rw [e]; omega) dzX0_append_49
    rw [← nI_1]
    show [some _, some _, some _, some _, some (u, Sum.inl (cI K, 2 * L, Sum.inl (upd (fun j => if j < L then sf j else 0) (nI L).toNatClampNeg (nI s))))] = _
    rw [ec]
    rfl
end
section
/-! CUT LIST: list, refresh, length, has, setOf, numberOfLeast -/
/-- the row of cuts as the class makes it: the first, each next one -/
def cseq (bl ab : Nat → Nat) (n : Nat) : Nat → Nat
  | 0 => clo bl ab n 0
  | i + 1 => flw bl ab n (cseq bl ab n i) n
def cstp (bl ab : Nat → Nat) (n : Nat) : Nat → Nat → Nat
  | 0, i => i
  | m + 1, i => if cseq bl ab n i = 2 ^ n - 1 then i else cstp bl ab n m (i + 1)
/-- how many come ahead of the last one, which is all things -/
def cstop (bl ab : Nat → Nat) (n : Nat) : Nat := cstp bl ab n (2 ^ n - 1) 0
def cutv (bl ab : Nat → Nat) (n j : Nat) : Nat := if j < cstop bl ab n then cseq bl ab n j else 2 ^ n - 1
theorem cstp_le {bl ab : Nat → Nat} {n : Nat} : ∀ m i, i ≤ cstp bl ab n m i ∧ cstp bl ab n m i ≤ i + m
  | 0, i => ⟨Nat.le_refl _, Nat.le_refl _⟩
  | m + 1, i => by
    unfold cstp
    split
    · omega
    · have := cstp_le (bl := bl) (ab := ab) (n := n) m (i + 1)
      omega
theorem cstop_le (bl ab : Nat → Nat) (n : Nat) : cstop bl ab n ≤ 2 ^ n - 1 := by
  have := (cstp_le (bl := bl) (ab := ab) (n := n) (2 ^ n - 1) 0).2
  unfold cstop
  omega
theorem cseq_lt {bl ab : Nat → Nat} {n : Nat} (hn : n ≤ 14) : ∀ i, cseq bl ab n i < 2 ^ 14
  | 0 => clo_lt hn
  | i + 1 => flw_lt hn n
def capA (cap : Nat) : Nat → Nat
  | 0 => cap
  | i + 1 => capN (capA cap i) i
theorem capA_mono (cap : Nat) {i j : Nat} (h : i ≤ j) : capA cap i ≤ capA cap j := by
  induction h with
  | refl => exact Nat.le_refl _
  | step _ ih => exact Nat.le_trans ih (capN_le _ _)
theorem capA_ok {cap : Nat} (h0 : 0 < cap) (hc : cap ≤ 32768) : ∀ i, i ≤ 16384 → i ≤ capA cap i ∧ 0 < capA cap i ∧ capA cap i ≤ 32768
  | 0, _ => ⟨Nat.zero_le _, h0, hc⟩
  | i + 1, hi => by
    obtain ⟨h1, h2, h3⟩ := capA_ok h0 hc i (by omega)
    show i + 1 ≤ capN (capA cap i) i ∧ 0 < capN (capA cap i) i ∧ capN (capA cap i) i ≤ 32768
    unfold capN
    split <;> omega
/-- what the object keeps of the cuts is true -/
def clV (bl ab : Nat → Nat) (n : Nat) (len : Int32) (sf : Nat → Int32) : Prop := len = nI (cstop bl ab n + 1) ∧ ∀ j, j ≤ cstop bl ab n → sf j = nI (cutv bl ab n j)
set_option maxHeartbeats 4000000 in
set_option maxRecDepth 100000 in
theorem c_list (K : zK) (c o b a y : Nat) (bl ab : Nat → Nat) (n : Nat) (ver : Int32) (sf : Nat → Int32) (cap : Nat) (len seen : Int32) (hn : n ≤ 14) (h0 : 0 < cap) (hcap : cap ≤ 32768) :
    zM (S := Nat × (Nat → Int32)) K yX0_list cX0_list 4 none (zq 3 (capA cap (cstop bl ab n + 1) - cap) (2 * (capA cap (cstop bl ab n + 1) - cap)) 103) [.ref c] (wC K c o b a y bl ab n ver sf cap len seen) (fun u => clV bl ab n (nI (cstop bl ab n + 1)) u.2) (fun _ => none) (fun u => wC K c o b a u.1 bl ab n ver u.2 (capA cap (cstop bl ab n + 1)) (nI (cstop bl ab n + 1)) seen) := by
  have hall := nb_all_lt hn
  have hst := cstop_le bl ab n
  refine zo (by decide) (Nat.le_of_ble_eq_true rfl) fun x C R _ => ?_
  -- the last one
  have last : ∀ (y : Nat) (f : Nat → Int32) (lv : zv_L), (∃ z w, lv = [(0, .ref c), (1, .int (nI (2 ^ n - 1))), (2, .int z), (3, .int w)]) → (∀ j, j < cstop bl ab n → f j = nI (cseq bl ab n j)) → zv_V x (gz K (zq 3 (capA cap (cstop bl ab n + 1) - cap) (2 * (capA cap (cstop bl ab n + 1) - cap)) 103) 4 cX0_list yX0_list.cls) 48 lv [] (wC K c o b a y bl ab n ver f (capA cap (cstop bl ab n)) (nI (cstop bl ab n)) seen) (capA cap (cstop bl ab n) - cap) (2 * (capA cap (cstop bl ab n) - cap)) := by
    intro y f lv hlv hf
    obtain ⟨z, w, rfl⟩ := hlv
    obtain ⟨c1, c2, c3⟩ := capA_ok h0 hcap (cstop bl ab n) (by omega)
    have m1 := capA_mono cap (Nat.zero_le (cstop bl ab n))
    have m2 : capA cap (cstop bl ab n) ≤ capN (capA cap (cstop bl ab n)) (cstop bl ab n) := capN_le _ _
    have m0 : capA cap 0 = cap := rfl
    have m3 : capA cap (cstop bl ab n + 1) = capN (capA cap (cstop bl ab n)) (cstop bl ab n) := rfl
    refine zv_go C okX0_list [] 2 ?_
    refine zv_callV C (c_append K c o b a y bl ab n ver f (capA cap (cstop bl ab n)) (cstop bl ab n) seen (2 ^ n - 1) c2 c1 (by omega) (by omega)) (zw_V inX0_append kX0_45 ⟨by show 2 + 1 ≤ 3; omega, by show 8 + (2 + 11) + 82 ≤ 103; omega⟩) [0, 1, 2, 3, 4] 0 rfl rfl rfl rfl (fun _ => Nat.le_refl _) rfl rfl (by decide) dzX0_list_50 ?_ ?_ rfl (fun u hu => ?_)
    · show capA cap (cstop bl ab n) - cap + (capN (capA cap (cstop bl ab n)) (cstop bl ab n) - capA cap (cstop bl ab n)) ≤ capA cap (cstop bl ab n + 1) - cap
      omega
    · show 2 * (capA cap (cstop bl ab n) - cap) + 2 * (capN (capA cap (cstop bl ab n)) (cstop bl ab n) - capA cap (cstop bl ab n)) ≤ 2 * (capA cap (cstop bl ab n + 1) - cap)
      omega
    refine zr R u [0, 1, 2, 3, 4] none _ rfl rfl ⟨rfl, fun j hj => ?_⟩ rfl rfl ?_ ?_ dzX0_list_53
    · unfold cutv
      by_cases e : j < cstop bl ab n
      · rw [if_pos e, hu.1 j e, hf j e]
      · have e2 : j = cstop bl ab n := by omega
        rw [if_neg e, e2]
        exact hu.2
    · show capA cap (cstop bl ab n) - cap + (capN (capA cap (cstop bl ab n)) (cstop bl ab n) - capA cap (cstop bl ab n)) ≤ capA cap (cstop bl ab n + 1) - cap
      omega
    · show 2 * (capA cap (cstop bl ab n) - cap) + 2 * (capN (capA cap (cstop bl ab n)) (cstop bl ab n) - capA cap (cstop bl ab n)) ≤ 2 * (capA cap (cstop bl ab n + 1) - cap)
      omega
  have loop : ∀ mm i (y : Nat) (f : Nat → Int32), i + mm = 2 ^ n - 1 → cstp bl ab n mm i = cstop bl ab n → (∀ j, j < i → f j = nI (cseq bl ab n j)) → zv_V x (gz K (zq 3 (capA cap (cstop bl ab n + 1) - cap) (2 * (capA cap (cstop bl ab n + 1) - cap)) 103) 4 cX0_list yX0_list.cls) 21 [(0, .ref c), (1, .int (nI (2 ^ n - 1))), (2, .int (nI (cseq bl ab n i))), (3, .int (nI i))] [] (wC K c o b a y bl ab n ver f (capA cap i) (nI i) seen) (capA cap i - cap) (2 * (capA cap i - cap)) := by
    intro mm
    induction mm with
    | zero =>
      intro i y f hi he hf
      have he : i = cstop bl ab n := he
      refine zv_go C okX0_list [48] 20 ?_
      refine ⟨fun _ => ?_, fun h => absurd (nI_le (by omega) (by omega)) h⟩
      have hl := last y f [(0, .ref c), (1, .int (nI (2 ^ n - 1))), (2, .int (nI (cseq bl ab n i))), (3, .int (nI i))] ⟨_, _, rfl⟩ (by rw [← he]; exact hf)
      rw [← he] at hl
      rw [← he]
      exact hl
    | succ mm ih =>
      intro i y f hi he hf
      obtain ⟨c1, c2, c3⟩ := capA_ok h0 hcap i (by omega)
      have m1 := capA_mono cap (Nat.zero_le i)
      have m0 : capA cap 0 = cap := rfl
      have m2 : capA cap i ≤ capN (capA cap i) i := capN_le _ _
      have hsq := cseq_lt (bl := bl) (ab := ab) hn i
      refine zv_go C okX0_list [48] 20 ?_
      refine ⟨fun h => absurd h (nI_ge (by omega) (by omega)), fun _ => ⟨fun h => ?_, fun h => ?_⟩⟩
      · rw [nb_inj (by omega) (by omega)] at h
        rw [cstp, if_pos h] at he
        have hl := last y f [(0, .ref c), (1, .int (nI (2 ^ n - 1))), (2, .int (nI (cseq bl ab n i))), (3, .int (nI i))] ⟨_, _, rfl⟩ (by rw [← he]; exact hf)
        rw [← he] at hl
        rw [← he]
        exact hl
      · rw [nb_inj (by omega) (by omega)] at h
        rw [cstp, if_neg h] at he
        have hge := (cstp_le (bl := bl) (ab := ab) (n := n) mm (i + 1)).1
        have m3 : capN (capA cap i) i ≤ capA cap (cstop bl ab n + 1) := capA_mono cap (i := i + 1) (by omega)
        refine zv_callV C (c_append K c o b a y bl ab n ver f (capA cap i) i seen (cseq bl ab n i) c2 c1 (by omega) (by omega)) (zw_V inX0_append kX0_45 ⟨by show 2 + 1 ≤ 3; omega, by show 8 + (2 + 11) + 82 ≤ 103; omega⟩) [0, 1, 2, 3, 4] 0 rfl rfl rfl rfl (fun _ => Nat.le_refl _) rfl rfl (by decide) dzX0_list_33 ?_ ?_ rfl (fun u hu => ?_)
        · show capA cap i - cap + (capN (capA cap i) i - capA cap i) ≤ capA cap (cstop bl ab n + 1) - cap
          omega
        · show 2 * (capA cap i - cap) + 2 * (capN (capA cap i) i - capA cap i) ≤ 2 * (capA cap (cstop bl ab n + 1) - cap)
          omega
        refine zv_to C rfl rfl (ws' := wC K c o b a u.1 bl ab n ver u.2 (capA cap (i + 1)) (nI (i + 1)) seen) rfl ?_
        refine zv_wide C (ce' := capA cap (i + 1) - cap) (sl' := 2 * (capA cap (i + 1) - cap)) ?_ ?_ ?_
        · show capA cap i - cap + (capN (capA cap i) i - capA cap i) ≤ capN (capA cap i) i - cap
          omega
        · show 2 * (capA cap i - cap) + 2 * (capN (capA cap i) i - capA cap i) ≤ 2 * (capN (capA cap i) i - cap)
          omega
        refine zv_go C okX0_list [] 2 ?_
        refine zv_callV C (c_following K c o b a u.1 bl ab n ver u.2 (capA cap (i + 1)) (nI (i + 1)) seen hsq hn) (zw_V inX0_following kX0_49 ⟨by show 2 + 1 ≤ 3; omega, by show 8 + (5 + 11) + 45 ≤ 103; omega⟩) [0, 1, 2, 3, 4] 0 rfl rfl rfl rfl (fun _ => Nat.le_refl _) rfl rfl (by decide) dzX0_list_38 ?_ ?_ rfl (fun _ _ => ?_)
        · show capN (capA cap i) i - cap + 0 ≤ capA cap (cstop bl ab n + 1) - cap
          omega
        · show 2 * (capN (capA cap i) i - cap) + 0 ≤ 2 * (capA cap (cstop bl ab n + 1) - cap)
          omega
        refine zv_go C okX0_list [21] 20 ?_
        refine zv_to C (lv' := [(0, .ref c), (1, .int (nI (2 ^ n - 1))), (2, .int (nI (cseq bl ab n (i + 1)))), (3, .int (nI (i + 1)))]) (by rw [← nI_1] <;> rfl) rfl rfl (ih (i + 1) u.1 u.2 (by omega) he ?_)
        intro j hj
        by_cases e : j < i
        · rw [hu.1 j e, hf j e]
        · have e2 : j = i := by omega
          rw [e2]
          exact hu.2
  refine zv_go C okX0_list [] 2 ?_
  refine ⟨rfl, ?_⟩
  refine zv_callV C (c_all K o b a bl ab n ver hn) (zw_V inX4_all kX0_41 ⟨by show 0 + 1 ≤ 3; omega, by show 8 + (1 + 11) + 0 ≤ 103; omega⟩) [1, 2, 3] 1 rfl rfl rfl rfl (fun _ => Nat.le_refl _) rfl rfl (by decide) dzX0_list_4 (Nat.zero_le _) (Nat.zero_le _) rfl (fun _ _ => ?_)
  refine zv_to C rfl rfl (ws' := wC K c o b a y bl ab n ver sf cap len seen) rfl ?_
  refine zv_go C okX0_list [] 3 ?_
  refine zv_callV C (c_close K c o b a y bl ab n ver sf cap len seen (s := 0) (by decide) hn) (zw_V inX0_close kX0_29 ⟨by show 1 + 1 ≤ 3; omega, by show 8 + (5 + 11) + 21 ≤ 103; omega⟩) [0, 1, 2, 3, 4] 0 rfl rfl rfl rfl (fun _ => Nat.le_refl _) rfl rfl (by decide) dzX0_list_10 (Nat.zero_le _) (Nat.zero_le _) rfl (fun _ _ => ?_)
  refine zv_to C rfl rfl (ws' := wC K c o b a y bl ab n ver sf cap len seen) rfl ?_
  refine zv_go C okX0_list [21] 20 ?_
  refine ⟨rfl, ?_⟩
  refine zv_wide C (ce' := capA cap 0 - cap) (sl' := 2 * (capA cap 0 - cap)) (Nat.zero_le _) (Nat.zero_le _) ?_
  exact loop (2 ^ n - 1) 0 y sf (by omega) rfl (fun j hj => absurd hj (Nat.not_lt_zero _))
end
section
/-! CUT LIST: refresh, length, has, setOf, numberOfLeast -/
def capR (seen ver : Int32) (bl ab : Nat → Nat) (n cap : Nat) : Nat := if seen = ver then cap else capA cap (cstop bl ab n + 1)
theorem capR_le (seen ver : Int32) (bl ab : Nat → Nat) (n cap : Nat) : cap ≤ capR seen ver bl ab n cap := by
  unfold capR
  split
  · exact Nat.le_refl _
  · exact capA_mono cap (Nat.zero_le _)
theorem capR_hi (seen ver : Int32) (bl ab : Nat → Nat) {n cap : Nat} (hn : n ≤ 14) (h0 : 0 < cap) (hc : cap ≤ 32768) : capR seen ver bl ab n cap ≤ 32768 := by
  unfold capR
  split
  · exact hc
  · have h1 := cstop_le bl ab n
    have h2 := nb_all_lt hn
    exact (capA_ok h0 hc _ (by omega)).2.2
/-- the room of a refresh -/
abbrev zqC (f : Nat) (seen ver : Int32) (bl ab : Nat → Nat) (n cap l : Nat) : Room := zq f (capR seen ver bl ab n cap - cap) (2 * (capR seen ver bl ab n cap - cap)) l
set_option maxHeartbeats 4000000 in
set_option maxRecDepth 100000 in
theorem c_clRefresh (K : zK) (c o b a y : Nat) (bl ab : Nat → Nat) (n : Nat) (ver : Int32) (sf : Nat → Int32) (cap : Nat) (len seen : Int32) (hn : n ≤ 14) (h0 : 0 < cap) (hcap : cap ≤ 32768) (hs : seen = ver → clV bl ab n len sf) :
    zM (S := Nat × (Nat → Int32)) K yX0_refresh cX0_refresh 1 none (zqC 4 seen ver bl ab n cap 126) [.ref c] (wC K c o b a y bl ab n ver sf cap len seen) (fun u => clV bl ab n (nI (cstop bl ab n + 1)) u.2) (fun _ => none) (fun u => wC K c o b a u.1 bl ab n ver u.2 (capR seen ver bl ab n cap) (nI (cstop bl ab n + 1)) ver) := by
  refine zo (by decide) (Nat.le_of_ble_eq_true rfl) fun x C R _ => ?_
  refine zv_go C okX0_refresh [] 20 ?_
  refine ⟨rfl, rfl, rfl, fun h => ?_, fun h => ⟨rfl, rfl, rfl, ?_⟩⟩
  · have h : seen = ver := h
    subst h
    have hv := hs rfl
    have e : capR seen seen bl ab n cap = cap := if_pos rfl
    exact zr R (y, sf) [0, 1, 2, 3, 4] none (wC K c o b a y bl ab n seen sf cap len seen) rfl (by rw [hv.1, e]) ⟨rfl, hv.2⟩ rfl rfl (Nat.zero_le _) (Nat.zero_le _) dzX0_refresh_29
  · have h : ¬ seen = ver := h
    have e : capR seen ver bl ab n cap = capA cap (cstop bl ab n + 1) := if_neg h
    refine zv_callV C (c_list K c o b a y bl ab n ver sf cap len ver hn h0 hcap) (zw_V inX0_list kX0_38 ⟨by show 3 + 1 ≤ 4; omega, by show 8 + (4 + 11) + 103 ≤ 126; omega⟩) [0, 1, 2, 3, 4] 0 rfl rfl rfl rfl (fun _ => Nat.le_refl _) rfl rfl (by decide) dzX0_refresh_26 (by show 0 + (capA cap (cstop bl ab n + 1) - cap) ≤ capR seen ver bl ab n cap - cap; rw [e]; omega) (by show 0 + 2 * (capA cap (cstop bl ab n + 1) - cap) ≤ 2 * (capR seen ver bl ab n cap - cap); rw [e]; omega) rfl (fun u hu => ?_)
    exact zr R u [0, 1, 2, 3, 4] none (wC K c o b a u.1 bl ab n ver u.2 (capA cap (cstop bl ab n + 1)) (nI (cstop bl ab n + 1)) ver) rfl (by rw [e]) hu rfl rfl (by show 0 + (capA cap (cstop bl ab n + 1) - cap) ≤ capR seen ver bl ab n cap - cap; rw [e]; omega) (by show 0 + 2 * (capA cap (cstop bl ab n + 1) - cap) ≤ 2 * (capR seen ver bl ab n cap - cap); rw [e]; omega) dzX0_refresh_29
set_option maxHeartbeats 4000000 in
set_option maxRecDepth 100000 in
theorem c_clLength (K : zK) (c o b a y : Nat) (bl ab : Nat → Nat) (n : Nat) (ver : Int32) (sf : Nat → Int32) (cap : Nat) (len seen : Int32) (hn : n ≤ 14) (h0 : 0 < cap) (hcap : cap ≤ 32768) (hs : seen = ver → clV bl ab n len sf) :
    zM (S := Nat × (Nat → Int32)) K yX0_length cX0_length 1 (some .int) (zqC 5 seen ver bl ab n cap 146) [.ref c] (wC K c o b a y bl ab n ver sf cap len seen) (fun u => clV bl ab n (nI (cstop bl ab n + 1)) u.2) (fun _ => some (.int (nI (cstop bl ab n + 1)))) (fun u => wC K c o b a u.1 bl ab n ver u.2 (capR seen ver bl ab n cap) (nI (cstop bl ab n + 1)) ver) := by
  refine zo (by decide) (Nat.le_of_ble_eq_true rfl) fun x C R _ => ?_
  refine zv_go C okX0_length [] 1 ?_
  refine zv_callV C (c_clRefresh K c o b a y bl ab n ver sf cap len seen hn h0 hcap hs) (zw_V inX0_refresh kX0_23 ⟨by show 4 + 1 ≤ 5; omega, by show 8 + (1 + 11) + 126 ≤ 146; omega⟩) [0, 1, 2, 3, 4] 0 rfl rfl rfl rfl (fun _ => Nat.le_refl _) rfl rfl (by decide) dzX0_length_1 (Nat.le_of_eq (Nat.zero_add _)) (Nat.le_of_eq (Nat.zero_add _)) rfl (fun u hu => ?_)
  refine zv_to C rfl rfl (ws' := wC K c o b a u.1 bl ab n ver u.2 (capR seen ver bl ab n cap) (nI (cstop bl ab n + 1)) ver) rfl ?_
  refine zv_go C okX0_length [] 20 ?_
  refine ⟨rfl, ?_⟩
  exact zr R u [0, 1, 2, 3, 4] (some (.int _)) _ rfl rfl hu rfl rfl (Nat.le_of_eq (Nat.zero_add _)) (Nat.le_of_eq (Nat.zero_add _)) dzX0_length_8
set_option maxHeartbeats 4000000 in
set_option maxRecDepth 100000 in
theorem c_clHas (K : zK) (c o b a y : Nat) (bl ab : Nat → Nat) (n : Nat) (ver : Int32) (sf : Nat → Int32) (cap : Nat) (len seen k : Int32) (hn : n ≤ 14) (h0 : 0 < cap) (hcap : cap ≤ 32768) (hs : seen = ver → clV bl ab n len sf) :
    zM (S := Nat × (Nat → Int32)) K yX0_has cX0_has 2 (some .boolean) (zqC 5 seen ver bl ab n cap 146) [.ref c, .int k] (wC K c o b a y bl ab n ver sf cap len seen) (fun u => clV bl ab n (nI (cstop bl ab n + 1)) u.2) (fun _ => some (.int (bI (hasb (cstop bl ab n + 1) k)))) (fun u => wC K c o b a u.1 bl ab n ver u.2 (capR seen ver bl ab n cap) (nI (cstop bl ab n + 1)) ver) := by
  refine zo (by decide) (Nat.le_of_ble_eq_true rfl) fun x C R _ => ?_
  refine zv_go C okX0_has [] 1 ?_
  refine zv_callV C (c_clRefresh K c o b a y bl ab n ver sf cap len seen hn h0 hcap hs) (zw_V inX0_refresh kX0_23 ⟨by show 4 + 1 ≤ 5; omega, by show 8 + (1 + 11) + 126 ≤ 146; omega⟩) [0, 1, 2, 3, 4] 0 rfl rfl rfl rfl (fun _ => Nat.le_refl _) rfl rfl (by decide) dzX0_has_1 (Nat.le_of_eq (Nat.zero_add _)) (Nat.le_of_eq (Nat.zero_add _)) rfl (fun u hu => ?_)
  refine zv_to C rfl rfl (ws' := wC K c o b a u.1 bl ab n ver u.2 (capR seen ver bl ab n cap) (nI (cstop bl ab n + 1)) ver) rfl ?_
  refine zv_go C okX0_has [] 20 ?_
  refine ⟨fun h => ?_, fun h => ⟨rfl, fun h2 => ?_, fun h2 => ?_⟩⟩
  · exact zr R u [0, 1, 2, 3, 4] (some (.int 0)) _ (by unfold hasb; rw [decide_eq_false]; rfl; exact fun q => absurd q.1 (Int32.not_le.mpr h)) rfl hu rfl rfl (Nat.le_of_eq (Nat.zero_add _)) (Nat.le_of_eq (Nat.zero_add _)) ⟨rfl, dzX0_has_21⟩
  · exact zr R u [0, 1, 2, 3, 4] (some (.int 0)) _ (by unfold hasb; rw [decide_eq_false]; rfl; exact fun q => absurd q.2 (Int32.not_lt.mpr h2)) rfl hu rfl rfl (Nat.le_of_eq (Nat.zero_add _)) (Nat.le_of_eq (Nat.zero_add _)) ⟨rfl, dzX0_has_21⟩
  · exact zr R u [0, 1, 2, 3, 4] (some (.int 1)) _ (by unfold hasb; rw [decide_eq_true]; rfl; exact ⟨Int32.not_lt.mp h, Int32.not_le.mp h2⟩) rfl hu rfl rfl (Nat.le_of_eq (Nat.zero_add _)) (Nat.le_of_eq (Nat.zero_add _)) ⟨rfl, dzX0_has_21⟩
set_option maxHeartbeats 4000000 in
set_option maxRecDepth 100000 in
theorem c_setOf (K : zK) (c o b a y : Nat) (bl ab : Nat → Nat) (n : Nat) (ver : Int32) (sf : Nat → Int32) (cap : Nat) (len seen : Int32) {k : Nat} (hk : k < cap) (hcap : cap ≤ 32768) :
    zD K yX0_setOf cX0_setOf 2 (some .int) (zq 0 0 0 0) [.ref c, .int (nI k)] (wC K c o b a y bl ab n ver sf cap len seen) (some (.int (sf k))) (wC K c o b a y bl ab n ver sf cap len seen) := by
  refine zo (by decide) (Nat.le_of_ble_eq_true rfl) fun x C R _ => ?_
  refine zv_go C okX0_setOf [] 20 ?_
  refine ⟨rfl, ⟨rfl, rfl⟩, vp_in_nI hk (by omega), ?_⟩
  exact zr R () [0, 1, 2, 3, 4] (some (.int _)) _ (by rw [nI_clamp (by omega)]) rfl trivial rfl rfl (Nat.le_refl _) (Nat.le_refl _) dzX0_setOf_6
/-- the number of the first cut that is w -/
def nol (bl ab : Nat → Nat) (n w : Nat) : Nat → Option Nat
  | 0 => none
  | m + 1 => if cutv bl ab n (cstop bl ab n + 1 - (m + 1)) = w then some (cstop bl ab n + 1 - (m + 1)) else nol bl ab n w m
theorem cutv_lt {bl ab : Nat → Nat} {n j : Nat} (hn : n ≤ 14) : cutv bl ab n j < 2 ^ 14 := by
  unfold cutv
  split
  · exact cseq_lt hn j
  · exact nb_all_lt hn
theorem capR_ge {seen ver : Int32} {bl ab : Nat → Nat} {n cap : Nat} (hn : n ≤ 14) (h0 : 0 < cap) (hcap : cap ≤ 32768) (hs : seen = ver → cstop bl ab n + 1 ≤ cap) : cstop bl ab n + 1 ≤ capR seen ver bl ab n cap := by
  unfold capR
  split
  · exact hs (by assumption)
  · have h1 := cstop_le bl ab n
    have h2 := nb_all_lt hn
    have h3 : 0 < 2 ^ n := Nat.two_pow_pos n
    exact (capA_ok h0 hcap (cstop bl ab n + 1) (by omega)).1
set_option maxHeartbeats 4000000 in
set_option maxRecDepth 100000 in
theorem c_numberOfLeast (K : zK) (c o b a y : Nat) (bl ab : Nat → Nat) (n : Nat) (ver : Int32) (sf : Nat → Int32) (cap : Nat) (len seen : Int32) {s : Nat} (hls : s < 2 ^ 14) (hn : n ≤ 14) (h0 : 0 < cap) (hcap : cap ≤ 32768) (hs : seen = ver → clV bl ab n len sf ∧ cstop bl ab n + 1 ≤ cap) :
    zM (S := Nat × (Nat → Int32)) K yX0_numberOfLeast cX0_numberOfLeast 4 (some .int) (zqC 5 seen ver bl ab n cap 146) [.ref c, .int (nI s)] (wC K c o b a y bl ab n ver sf cap len seen) (fun u => clV bl ab n (nI (cstop bl ab n + 1)) u.2) (fun _ => some (.int (oI (nol bl ab n (clo bl ab n s) (cstop bl ab n + 1))))) (fun u => wC K c o b a u.1 bl ab n ver u.2 (capR seen ver bl ab n cap) (nI (cstop bl ab n + 1)) ver) := by
  have hall := nb_all_lt hn
  have hst := cstop_le bl ab n
  have hp : 0 < 2 ^ n := Nat.two_pow_pos n
  have hge := capR_ge hn h0 hcap (fun q => (hs q).2)
  have hhi := capR_hi seen ver bl ab hn h0 hcap
  refine zo (by decide) (Nat.le_of_ble_eq_true rfl) fun x C R _ => ?_
  refine zv_go C okX0_numberOfLeast [] 1 ?_
  refine zv_callV C (c_clRefresh K c o b a y bl ab n ver sf cap len seen hn h0 hcap (fun q => (hs q).1)) (zw_V inX0_refresh kX0_23 ⟨by show 4 + 1 ≤ 5; omega, by show 8 + (1 + 11) + 126 ≤ 146; omega⟩) [0, 1, 2, 3, 4] 0 rfl rfl rfl rfl (fun _ => Nat.le_refl _) rfl rfl (by decide) dzX0_numberOfLeast_1 (Nat.le_of_eq (Nat.zero_add _)) (Nat.le_of_eq (Nat.zero_add _)) rfl (fun u hu => ?_)
  refine zv_to C rfl rfl (ws' := wC K c o b a u.1 bl ab n ver u.2 (capR seen ver bl ab n cap) (nI (cstop bl ab n + 1)) ver) rfl ?_
  refine zv_wide C (ce' := capR seen ver bl ab n cap - cap) (sl' := 2 * (capR seen ver bl ab n cap - cap)) (Nat.le_of_eq (Nat.zero_add _)) (Nat.le_of_eq (Nat.zero_add _)) ?_
  refine zv_go C okX0_numberOfLeast [] 2 ?_
  refine zv_callV C (c_close K c o b a u.1 bl ab n ver u.2 (capR seen ver bl ab n cap) (nI (cstop bl ab n + 1)) ver hls hn) (zw_V inX0_close kX0_29 ⟨by show 1 + 1 ≤ 5; omega, by show 8 + (5 + 11) + 21 ≤ 146; omega⟩) [0, 1, 2, 3, 4] 0 rfl rfl rfl rfl (fun _ => Nat.le_refl _) rfl rfl (by decide) dzX0_numberOfLeast_6 (Nat.le_refl _) (Nat.le_refl _) rfl (fun _ _ => ?_)
  have loop : ∀ mm, mm ≤ cstop bl ab n + 1 → nol bl ab n (clo bl ab n s) mm = nol bl ab n (clo bl ab n s) (cstop bl ab n + 1) → zv_V x (gz K (zqC 5 seen ver bl ab n cap 146) 4 cX0_numberOfLeast yX0_numberOfLeast.cls) 12 [(0, .ref c), (1, .int (nI s)), (2, .int (nI (clo bl ab n s))), (3, .int (nI (cstop bl ab n + 1 - mm)))] [] (wC K c o b a u.1 bl ab n ver u.2 (capR seen ver bl ab n cap) (nI (cstop bl ab n + 1)) ver) (capR seen ver bl ab n cap - cap) (2 * (capR seen ver bl ab n cap - cap)) := by
    intro mm
    induction mm with
    | zero =>
      intro _ he
      refine zv_go C okX0_numberOfLeast [] 20 ?_
      refine ⟨rfl, fun _ => ?_, fun h => absurd (nI_le (by omega) (by omega)) h⟩
      exact zr R u [0, 1, 2, 3, 4] (some (.int (-1))) _ (by rw [← he] <;> rfl) rfl hu rfl rfl (Nat.le_refl _) (Nat.le_refl _) dzX0_numberOfLeast_39
    | succ mm ih =>
      intro hm he
      have enx : nI (cstop bl ab n + 1 - (mm + 1)) + 1 = nI (cstop bl ab n + 1 - mm) := by rw [nI_1]; congr 1; omega
      refine zv_go C okX0_numberOfLeast [12] 20 ?_
      refine ⟨rfl, fun h => absurd h (nI_ge (by omega) (by omega)), fun _ => ⟨rfl, ⟨rfl, rfl⟩, vp_in_nI (by omega) (by omega), fun h => ?_, fun h => ?_⟩⟩
      · have h : ¬ u.2 (nI (cstop bl ab n + 1 - (mm + 1))).toNatClampNeg = nI (clo bl ab n s) := h
        rw [nI_clamp (by omega), hu.2 _ (by omega), nb_inj (Nat.lt_trans (cutv_lt hn) (by decide)) (Nat.lt_trans (clo_lt hn) (by decide))] at h
        rw [nol, if_neg h] at he
        exact zv_to C (lv' := [(0, .ref c), (1, .int (nI s)), (2, .int (nI (clo bl ab n s))), (3, .int (nI (cstop bl ab n + 1 - mm)))]) (by rw [← enx] <;> rfl) rfl rfl (ih (by omega) he)
      · have h : u.2 (nI (cstop bl ab n + 1 - (mm + 1))).toNatClampNeg = nI (clo bl ab n s) := h
        rw [nI_clamp (by omega), hu.2 _ (by omega), nb_inj (Nat.lt_trans (cutv_lt hn) (by decide)) (Nat.lt_trans (clo_lt hn) (by decide))] at h
        rw [nol, if_pos h] at he
        exact zr R u [0, 1, 2, 3, 4] (some (.int _)) _ (by rw [← he] <;> rfl) rfl hu rfl rfl (Nat.le_refl _) (Nat.le_refl _) dzX0_numberOfLeast_31
  refine zv_go C okX0_numberOfLeast [12] 20 ?_
  exact zv_to C (lv' := [(0, .ref c), (1, .int (nI s)), (2, .int (nI (clo bl ab n s))), (3, .int (nI (cstop bl ab n + 1 - (cstop bl ab n + 1))))]) (by rw [Nat.sub_self] <;> rfl) rfl rfl (loop _ (Nat.le_refl _) rfl)
end
section
def tbX6_init : List zv_I := [(0, .aload_n 0, 1, (0, 0, 0, 0, 0, 0)), (1, .invokespecial 3, 4, (0, 0, 0, 0, 0, 0)), (4, .aload_n 0, 5, (0, 0, 0, 0, 0, 0)), (5, .bipush 16, 7, (0, 0, 0, 0, 16, 0)), (7, .newarray .long, 9, (0, 0, 0, 0, 0, 0)), (9, .putfield 9, 12, (0, 6, 1, 2, 0, 0)), (12, .aload_n 0, 13, (0, 0, 0, 0, 0, 0)), (13, .bipush 16, 15, (0, 0, 0, 0, 16, 0)), (15, .newarray .long, 17, (0, 0, 0, 0, 0, 0)), (17, .putfield 15, 20, (0, 6, 2, 2, 0, 0)), (20, .aload_n 0, 21, (0, 0, 0, 0, 0, 0)), (21, .iconst (-1), 22, (0, 0, 0, 0, (-1), 0)), (22, .putfield 18, 25, (0, 6, 4, 0, 0, 0)), (25, .aload_n 0, 26, (0, 0, 0, 0, 0, 0)), (26, .iconst (-1), 27, (0, 0, 0, 0, (-1), 0)), (27, .putfield 22, 30, (0, 6, 5, 0, 0, 0)), (30, .aload_n 0, 31, (0, 0, 0, 0, 0, 0)), (31, .aload_n 1, 32, (0, 0, 0, 0, 0, 0)), (35, .return_, 36, (0, 0, 0, 0, 0, 0))]
theorem okX6_init : zv_ok 2 cX6_init RX6 zt vwCl tbX6_init = true := by decide +kernel
theorem dzX6_init_1 : decode cX6_init 1 = .ok (.invokespecial 3, 3) := by decide +kernel
theorem dzX6_init_7 : decode cX6_init 7 = .ok (.newarray .long, 2) := by decide +kernel
theorem dzX6_init_15 : decode cX6_init 15 = .ok (.newarray .long, 2) := by decide +kernel
theorem dzX6_init_32 : decode cX6_init 32 = .ok (.putfield 25, 3) := by decide +kernel
theorem dzX6_init_35 : decode cX6_init 35 = .ok (.return_, 1) := by decide +kernel
set_option maxRecDepth 100000 in
theorem inX6_init : Jvm.Cond.code yX6_init cX6_init 2 none ∈ zt := List.mem_filter.mpr ⟨List.mem_append_right _ (List.mem_of_getElem? (i := 144) rfl), rfl⟩
def tbX6_total : List zv_I := [(0, .aload_n 0, 1, (0, 0, 0, 0, 0, 0)), (1, .invokevirtual 29, 4, (0, 0, 0, 0, 0, 0)), (4, .aload_n 0, 5, (0, 0, 0, 0, 0, 0)), (5, .getfield 9, 8, (0, 6, 1, 0, 0, 0)), (8, .aload_n 0, 9, (0, 0, 0, 0, 0, 0)), (9, .getfield 25, 12, (0, 6, 0, 0, 0, 0)), (12, .invokevirtual 32, 15, (0, 0, 0, 0, 0, 0)), (15, .laload, 16, (4, 1, 0, 1, 0, 0)), (16, .lreturn, 17, (0, 0, 0, 0, 0, 0))]
theorem okX6_total : zv_ok 1 cX6_total RX6 zt vwCl tbX6_total = true := by decide +kernel
theorem dzX6_total_1 : decode cX6_total 1 = .ok (.invokevirtual 29, 3) := by decide +kernel
theorem dzX6_total_12 : decode cX6_total 12 = .ok (.invokevirtual 32, 3) := by decide +kernel
theorem dzX6_total_16 : decode cX6_total 16 = .ok (.lreturn, 1) := by decide +kernel
set_option maxRecDepth 100000 in
theorem inX6_total : Jvm.Cond.code yX6_total cX6_total 1 ((some .long)) ∈ zt := List.mem_filter.mpr ⟨List.mem_append_right _ (List.mem_of_getElem? (i := 449) rfl), rfl⟩
def tbX6_ideals : List zv_I := [(0, .aload_n 0, 1, (0, 0, 0, 0, 0, 0)), (1, .invokevirtual 29, 4, (0, 0, 0, 0, 0, 0)), (4, .aload_n 0, 5, (0, 0, 0, 0, 0, 0)), (5, .getfield 38, 8, (0, 6, 3, 0, 0, 0)), (8, .ireturn, 9, (0, 0, 0, 0, 0, 0))]
theorem okX6_ideals : zv_ok 1 cX6_ideals RX6 zt vwCl tbX6_ideals = true := by decide +kernel
theorem dzX6_ideals_1 : decode cX6_ideals 1 = .ok (.invokevirtual 29, 3) := by decide +kernel
theorem dzX6_ideals_8 : decode cX6_ideals 8 = .ok (.ireturn, 1) := by decide +kernel
set_option maxRecDepth 100000 in
theorem inX6_ideals : Jvm.Cond.code yX6_ideals cX6_ideals 1 ((some .int)) ∈ zt := List.mem_filter.mpr ⟨List.mem_append_right _ (List.mem_of_getElem? (i := 348) rfl), rfl⟩
def tbX6_rowsWithFirst : List zv_I := [(0, .aload_n 0, 1, (0, 0, 0, 0, 0, 0)), (1, .invokevirtual 41, 4, (0, 0, 0, 0, 0, 0)), (4, .aload_n 0, 5, (0, 0, 0, 0, 0, 0)), (5, .getfield 25, 8, (0, 6, 0, 0, 0, 0)), (8, .invokevirtual 32, 11, (0, 0, 0, 0, 0, 0)), (11, .istore_n 3, 12, (0, 0, 0, 0, 0, 0)), (12, .lconst 0, 13, (0, 0, 0, 0, 0, 0)), (13, .lstore 4, 15, (0, 0, 0, 0, 0, 0)), (15, .iconst 0, 16, (0, 0, 0, 0, 0, 0)), (16, .istore 6, 18, (0, 0, 0, 0, 0, 0)), (18, .iload 6, 20, (0, 0, 0, 0, 0, 0)), (20, .iload_n 3, 21, (0, 0, 0, 0, 0, 0)), (21, .if_icmp .gt 42, 24, (63, 0, 0, 0, 0, 0)), (24, .iload 6, 26, (0, 0, 0, 0, 0, 0)), (26, .iconst 1, 27, (0, 0, 0, 0, 1, 0)), (27, .iload_n 1, 28, (0, 0, 0, 0, 0, 0)), (28, .ishl, 29, (0, 0, 0, 0, 0, 0)), (29, .iand, 30, (0, 0, 0, 0, 0, 0)), (30, .ifCond .eq 27, 33, (57, 0, 0, 0, 0, 0)), (33, .aload_n 0, 34, (0, 0, 0, 0, 0, 0)), (34, .getfield 9, 37, (0, 6, 1, 0, 0, 0)), (37, .iload 6, 39, (0, 0, 0, 0, 0, 0)), (39, .laload, 40, (4, 1, 0, 1, 0, 0)), (40, .lconst 0, 41, (0, 0, 0, 0, 0, 0)), (41, .lcmp, 42, (0, 0, 0, 0, 0, 0)), (42, .ifCond .eq 15, 45, (57, 0, 0, 0, 0, 0)), (45, .lload 4, 47, (0, 0, 0, 0, 0, 0)), (47, .aload_n 0, 48, (0, 0, 0, 0, 0, 0)), (48, .iload 6, 50, (0, 0, 0, 0, 0, 0)), (50, .iload_n 2, 51, (0, 0, 0, 0, 0, 0)), (51, .invokevirtual 44, 54, (0, 0, 0, 0, 0, 0)), (54, .ladd, 55, (0, 0, 0, 0, 0, 0)), (55, .lstore 4, 57, (0, 0, 0, 0, 0, 0)), (57, .iinc 6 1, 60, (0, 0, 0, 0, 1, 0)), (60, .goto (-42), 63, (18, 0, 0, 0, 0, 0)), (63, .lload 4, 65, (0, 0, 0, 0, 0, 0)), (65, .lreturn, 66, (0, 0, 0, 0, 0, 0))]
theorem okX6_rowsWithFirst : zv_ok 7 cX6_rowsWithFirst RX6 zt vwCl tbX6_rowsWithFirst = true := by decide +kernel
theorem dzX6_rowsWithFirst_1 : decode cX6_rowsWithFirst 1 = .ok (.invokevirtual 41, 3) := by decide +kernel
theorem dzX6_rowsWithFirst_8 : decode cX6_rowsWithFirst 8 = .ok (.invokevirtual 32, 3) := by decide +kernel
theorem dzX6_rowsWithFirst_51 : decode cX6_rowsWithFirst 51 = .ok (.invokevirtual 44, 3) := by decide +kernel
theorem dzX6_rowsWithFirst_65 : decode cX6_rowsWithFirst 65 = .ok (.lreturn, 1) := by decide +kernel
set_option maxRecDepth 100000 in
theorem inX6_rowsWithFirst : Jvm.Cond.code yX6_rowsWithFirst cX6_rowsWithFirst 7 ((some .long)) ∈ zt := List.mem_filter.mpr ⟨List.mem_append_right _ (List.mem_of_getElem? (i := 458) rfl), rfl⟩
def tbX6_rowsWithPlace : List zv_I := [(0, .aload_n 0, 1, (0, 0, 0, 0, 0, 0)), (1, .invokevirtual 41, 4, (0, 0, 0, 0, 0, 0)), (4, .aload_n 0, 5, (0, 0, 0, 0, 0, 0)), (5, .getfield 25, 8, (0, 6, 0, 0, 0, 0)), (8, .invokevirtual 32, 11, (0, 0, 0, 0, 0, 0)), (11, .istore_n 3, 12, (0, 0, 0, 0, 0, 0)), (12, .lconst 0, 13, (0, 0, 0, 0, 0, 0)), (13, .lstore 4, 15, (0, 0, 0, 0, 0, 0)), (15, .iconst 0, 16, (0, 0, 0, 0, 0, 0)), (16, .istore 6, 18, (0, 0, 0, 0, 0, 0)), (18, .iload 6, 20, (0, 0, 0, 0, 0, 0)), (20, .iload_n 3, 21, (0, 0, 0, 0, 0, 0)), (21, .if_icmp .gt 42, 24, (63, 0, 0, 0, 0, 0)), (24, .aload_n 0, 25, (0, 0, 0, 0, 0, 0)), (25, .getfield 9, 28, (0, 6, 1, 0, 0, 0)), (28, .iload 6, 30, (0, 0, 0, 0, 0, 0)), (30, .laload, 31, (4, 1, 0, 1, 0, 0)), (31, .lconst 0, 32, (0, 0, 0, 0, 0, 0)), (32, .lcmp, 33, (0, 0, 0, 0, 0, 0)), (33, .ifCond .eq 24, 36, (57, 0, 0, 0, 0, 0)), (36, .iload 6, 38, (0, 0, 0, 0, 0, 0)), (38, .invokestatic 48, 41, (0, 0, 0, 0, 0, 0)), (41, .iload_n 2, 42, (0, 0, 0, 0, 0, 0)), (42, .if_icmp .ne 15, 45, (57, 0, 0, 0, 0, 0)), (45, .lload 4, 47, (0, 0, 0, 0, 0, 0)), (47, .aload_n 0, 48, (0, 0, 0, 0, 0, 0)), (48, .iload 6, 50, (0, 0, 0, 0, 0, 0)), (50, .iload_n 1, 51, (0, 0, 0, 0, 0, 0)), (51, .invokevirtual 44, 54, (0, 0, 0, 0, 0, 0)), (54, .ladd, 55, (0, 0, 0, 0, 0, 0)), (55, .lstore 4, 57, (0, 0, 0, 0, 0, 0)), (57, .iinc 6 1, 60, (0, 0, 0, 0, 1, 0)), (60, .goto (-42), 63, (18, 0, 0, 0, 0, 0)), (63, .lload 4, 65, (0, 0, 0, 0, 0, 0)), (65, .lreturn, 66, (0, 0, 0, 0, 0, 0))]
theorem okX6_rowsWithPlace : zv_ok 7 cX6_rowsWithPlace RX6 zt vwCl tbX6_rowsWithPlace = true := by decide +kernel
theorem dzX6_rowsWithPlace_1 : decode cX6_rowsWithPlace 1 = .ok (.invokevirtual 41, 3) := by decide +kernel
theorem dzX6_rowsWithPlace_8 : decode cX6_rowsWithPlace 8 = .ok (.invokevirtual 32, 3) := by decide +kernel
theorem dzX6_rowsWithPlace_38 : decode cX6_rowsWithPlace 38 = .ok (.invokestatic 48, 3) := by decide +kernel
theorem dzX6_rowsWithPlace_51 : decode cX6_rowsWithPlace 51 = .ok (.invokevirtual 44, 3) := by decide +kernel
theorem dzX6_rowsWithPlace_65 : decode cX6_rowsWithPlace 65 = .ok (.lreturn, 1) := by decide +kernel
set_option maxRecDepth 100000 in
theorem inX6_rowsWithPlace : Jvm.Cond.code yX6_rowsWithPlace cX6_rowsWithPlace 7 ((some .long)) ∈ zt := List.mem_filter.mpr ⟨List.mem_append_right _ (List.mem_of_getElem? (i := 490) rfl), rfl⟩
def tbX6_rowsWithStep : List zv_I := [(0, .aload_n 0, 1, (0, 0, 0, 0, 0, 0)), (1, .getfield 9, 4, (0, 6, 1, 0, 0, 0)), (4, .iload_n 1, 5, (0, 0, 0, 0, 0, 0)), (5, .laload, 6, (4, 1, 0, 1, 0, 0)), (6, .aload_n 0, 7, (0, 0, 0, 0, 0, 0)), (7, .iload_n 1, 8, (0, 0, 0, 0, 0, 0)), (8, .iload_n 2, 9, (0, 0, 0, 0, 0, 0)), (9, .invokevirtual 54, 12, (0, 0, 0, 0, 0, 0)), (12, .lmul, 13, (0, 0, 0, 0, 0, 0)), (13, .lreturn, 14, (0, 0, 0, 0, 0, 0))]
theorem okX6_rowsWithStep : zv_ok 3 cX6_rowsWithStep RX6 zt vwCl tbX6_rowsWithStep = true := by decide +kernel
theorem dzX6_rowsWithStep_9 : decode cX6_rowsWithStep 9 = .ok (.invokevirtual 54, 3) := by decide +kernel
theorem dzX6_rowsWithStep_13 : decode cX6_rowsWithStep 13 = .ok (.lreturn, 1) := by decide +kernel
set_option maxRecDepth 100000 in
theorem inX6_rowsWithStep : Jvm.Cond.code yX6_rowsWithStep cX6_rowsWithStep 3 ((some .long)) ∈ zt := List.mem_filter.mpr ⟨List.mem_append_right _ (List.mem_of_getElem? (i := 474) rfl), rfl⟩
def tbX6_rowNumbered : List zv_I := [(0, .aload_n 0, 1, (0, 0, 0, 0, 0, 0)), (1, .invokevirtual 41, 4, (0, 0, 0, 0, 0, 0)), (4, .lload_n 1, 5, (0, 0, 0, 0, 0, 0)), (5, .lconst 0, 6, (0, 0, 0, 0, 0, 0)), (6, .lcmp, 7, (0, 0, 0, 0, 0, 0)), (7, .ifCond .lt 14, 10, (21, 0, 0, 0, 0, 0)), (10, .lload_n 1, 11, (0, 0, 0, 0, 0, 0)), (11, .aload_n 0, 12, (0, 0, 0, 0, 0, 0)), (12, .getfield 15, 15, (0, 6, 2, 0, 0, 0)), (15, .iconst 0, 16, (0, 0, 0, 0, 0, 0)), (16, .laload, 17, (5, 1, 0, 1, 0, 0)), (17, .lcmp, 18, (0, 0, 0, 0, 0, 0)), (18, .ifCond .lt 7, 21, (25, 0, 0, 0, 0, 0)), (21, .ldc2_w 57, 24, (0, 0, 0, 0, 0, (-1))), (24, .lreturn, 25, (0, 0, 0, 0, 0, 0)), (25, .lload_n 1, 26, (0, 0, 0, 0, 0, 0)), (26, .lstore_n 3, 27, (0, 0, 0, 0, 0, 0)), (27, .lconst 0, 28, (0, 0, 0, 0, 0, 0)), (28, .lstore 5, 30, (0, 0, 0, 0, 0, 0)), (30, .iconst 0, 31, (0, 0, 0, 0, 0, 0)), (31, .istore 7, 33, (0, 0, 0, 0, 0, 0)), (33, .iconst 0, 34, (0, 0, 0, 0, 0, 0)), (34, .istore 8, 36, (0, 0, 0, 0, 0, 0)), (36, .iload 8, 38, (0, 0, 0, 0, 0, 0)), (38, .aload_n 0, 39, (0, 0, 0, 0, 0, 0)), (39, .getfield 25, 42, (0, 6, 0, 0, 0, 0)), (42, .getfield 59, 45, (1, 4, 2, 0, 0, 0)), (45, .if_icmp .ge 78, 48, (123, 0, 0, 0, 0, 0)), (48, .iconst 0, 49, (0, 0, 0, 0, 0, 0)), (49, .istore 9, 51, (0, 0, 0, 0, 0, 0)), (51, .iload 9, 53, (0, 0, 0, 0, 0, 0)), (53, .aload_n 0, 54, (0, 0, 0, 0, 0, 0)), (54, .getfield 25, 57, (0, 6, 0, 0, 0, 0)), (57, .getfield 59, 60, (1, 4, 2, 0, 0, 0)), (60, .iconst 1, 61, (0, 0, 0, 0, 1, 0)), (61, .isub, 62, (0, 0, 0, 0, 0, 0)), (62, .if_icmp .ge 33, 65, (95, 0, 0, 0, 0, 0)), (65, .lload_n 3, 66, (0, 0, 0, 0, 0, 0)), (66, .aload_n 0, 67, (0, 0, 0, 0, 0, 0)), (67, .iload 7, 69, (0, 0, 0, 0, 0, 0)), (69, .iload 9, 71, (0, 0, 0, 0, 0, 0)), (71, .invokevirtual 54, 74, (0, 0, 0, 0, 0, 0)), (74, .lcmp, 75, (0, 0, 0, 0, 0, 0)), (75, .ifCond .lt 20, 78, (95, 0, 0, 0, 0, 0)), (78, .lload_n 3, 79, (0, 0, 0, 0, 0, 0)), (79, .aload_n 0, 80, (0, 0, 0, 0, 0, 0)), (80, .iload 7, 82, (0, 0, 0, 0, 0, 0)), (82, .iload 9, 84, (0, 0, 0, 0, 0, 0)), (84, .invokevirtual 54, 87, (0, 0, 0, 0, 0, 0)), (87, .lsub, 88, (0, 0, 0, 0, 0, 0)), (88, .lstore_n 3, 89, (0, 0, 0, 0, 0, 0)), (89, .iinc 9 1, 92, (0, 0, 0, 0, 1, 0)), (92, .goto (-41), 95, (51, 0, 0, 0, 0, 0)), (95, .lload 5, 97, (0, 0, 0, 0, 0, 0)), (97, .iload 9, 99, (0, 0, 0, 0, 0, 0)), (99, .i2l, 100, (0, 0, 0, 0, 0, 0)), (100, .iconst 4, 101, (0, 0, 0, 0, 4, 0)), (101, .iload 8, 103, (0, 0, 0, 0, 0, 0)), (103, .imul, 104, (0, 0, 0, 0, 0, 0)), (104, .lshl, 105, (0, 0, 0, 0, 0, 0)), (105, .lor, 106, (0, 0, 0, 0, 0, 0)), (106, .lstore 5, 108, (0, 0, 0, 0, 0, 0)), (108, .iload 7, 110, (0, 0, 0, 0, 0, 0)), (110, .iconst 1, 111, (0, 0, 0, 0, 1, 0)), (111, .iload 9, 113, (0, 0, 0, 0, 0, 0)), (113, .ishl, 114, (0, 0, 0, 0, 0, 0)), (114, .ior, 115, (0, 0, 0, 0, 0, 0)), (115, .istore 7, 117, (0, 0, 0, 0, 0, 0)), (117, .iinc 8 1, 120, (0, 0, 0, 0, 1, 0)), (120, .goto (-84), 123, (36, 0, 0, 0, 0, 0)), (123, .lload 5, 125, (0, 0, 0, 0, 0, 0)), (125, .lreturn, 126, (0, 0, 0, 0, 0, 0))]
theorem okX6_rowNumbered : zv_ok 10 cX6_rowNumbered RX6 zt vwCl tbX6_rowNumbered = true := by decide +kernel
theorem dzX6_rowNumbered_1 : decode cX6_rowNumbered 1 = .ok (.invokevirtual 41, 3) := by decide +kernel
theorem dzX6_rowNumbered_24 : decode cX6_rowNumbered 24 = .ok (.lreturn, 1) := by decide +kernel
theorem dzX6_rowNumbered_71 : decode cX6_rowNumbered 71 = .ok (.invokevirtual 54, 3) := by decide +kernel
theorem dzX6_rowNumbered_84 : decode cX6_rowNumbered 84 = .ok (.invokevirtual 54, 3) := by decide +kernel
theorem dzX6_rowNumbered_125 : decode cX6_rowNumbered 125 = .ok (.lreturn, 1) := by decide +kernel
set_option maxRecDepth 100000 in
theorem inX6_rowNumbered : Jvm.Cond.code yX6_rowNumbered cX6_rowNumbered 10 ((some .long)) ∈ zt := List.mem_filter.mpr ⟨List.mem_append_right _ (List.mem_of_getElem? (i := 499) rfl), rfl⟩
def tbX6_numberOf : List zv_I := [(0, .aload_n 0, 1, (0, 0, 0, 0, 0, 0)), (1, .invokevirtual 41, 4, (0, 0, 0, 0, 0, 0)), (4, .lload_n 1, 5, (0, 0, 0, 0, 0, 0)), (5, .iconst 4, 6, (0, 0, 0, 0, 4, 0)), (6, .aload_n 0, 7, (0, 0, 0, 0, 0, 0)), (7, .getfield 25, 10, (0, 6, 0, 0, 0, 0)), (10, .getfield 59, 13, (1, 4, 2, 0, 0, 0)), (13, .imul, 14, (0, 0, 0, 0, 0, 0)), (14, .lushr, 15, (0, 0, 0, 0, 0, 0)), (15, .lconst 0, 16, (0, 0, 0, 0, 0, 0)), (16, .lcmp, 17, (0, 0, 0, 0, 0, 0)), (17, .ifCond .eq 7, 20, (24, 0, 0, 0, 0, 0)), (20, .ldc2_w 57, 23, (0, 0, 0, 0, 0, (-1))), (23, .lreturn, 24, (0, 0, 0, 0, 0, 0)), (24, .lconst 0, 25, (0, 0, 0, 0, 0, 0)), (25, .lstore_n 3, 26, (0, 0, 0, 0, 0, 0)), (26, .iconst 0, 27, (0, 0, 0, 0, 0, 0)), (27, .istore 5, 29, (0, 0, 0, 0, 0, 0)), (29, .iconst 0, 30, (0, 0, 0, 0, 0, 0)), (30, .istore 6, 32, (0, 0, 0, 0, 0, 0)), (32, .iload 6, 34, (0, 0, 0, 0, 0, 0)), (34, .aload_n 0, 35, (0, 0, 0, 0, 0, 0)), (35, .getfield 25, 38, (0, 6, 0, 0, 0, 0)), (38, .getfield 59, 41, (1, 4, 2, 0, 0, 0)), (41, .if_icmp .ge 87, 44, (128, 0, 0, 0, 0, 0)), (44, .lload_n 1, 45, (0, 0, 0, 0, 0, 0)), (45, .iconst 4, 46, (0, 0, 0, 0, 4, 0)), (46, .iload 6, 48, (0, 0, 0, 0, 0, 0)), (48, .imul, 49, (0, 0, 0, 0, 0, 0)), (49, .lushr, 50, (0, 0, 0, 0, 0, 0)), (50, .l2i, 51, (0, 0, 0, 0, 0, 0)), (51, .bipush 15, 53, (0, 0, 0, 0, 15, 0)), (53, .iand, 54, (0, 0, 0, 0, 0, 0)), (54, .istore 7, 56, (0, 0, 0, 0, 0, 0)), (56, .aload_n 0, 57, (0, 0, 0, 0, 0, 0)), (57, .getfield 25, 60, (0, 6, 0, 0, 0, 0)), (60, .iload 7, 62, (0, 0, 0, 0, 0, 0)), (62, .invokevirtual 62, 65, (0, 0, 0, 0, 0, 0)), (65, .ifCond .eq 17, 68, (82, 0, 0, 0, 0, 0)), (68, .aload_n 0, 69, (0, 0, 0, 0, 0, 0)), (69, .getfield 25, 72, (0, 6, 0, 0, 0, 0)), (72, .iload 5, 74, (0, 0, 0, 0, 0, 0)), (74, .iload 7, 76, (0, 0, 0, 0, 0, 0)), (76, .invokevirtual 66, 79, (0, 0, 0, 0, 0, 0)), (79, .ifCond .ne 7, 82, (86, 0, 0, 0, 0, 0)), (82, .ldc2_w 57, 85, (0, 0, 0, 0, 0, (-1))), (85, .lreturn, 86, (0, 0, 0, 0, 0, 0)), (86, .iconst 0, 87, (0, 0, 0, 0, 0, 0)), (87, .istore 8, 89, (0, 0, 0, 0, 0, 0)), (89, .iload 8, 91, (0, 0, 0, 0, 0, 0)), (91, .iload 7, 93, (0, 0, 0, 0, 0, 0)), (93, .if_icmp .ge 20, 96, (113, 0, 0, 0, 0, 0)), (96, .lload_n 3, 97, (0, 0, 0, 0, 0, 0)), (97, .aload_n 0, 98, (0, 0, 0, 0, 0, 0)), (98, .iload 5, 100, (0, 0, 0, 0, 0, 0)), (100, .iload 8, 102, (0, 0, 0, 0, 0, 0)), (102, .invokevirtual 54, 105, (0, 0, 0, 0, 0, 0)), (105, .ladd, 106, (0, 0, 0, 0, 0, 0)), (106, .lstore_n 3, 107, (0, 0, 0, 0, 0, 0)), (107, .iinc 8 1, 110, (0, 0, 0, 0, 1, 0)), (110, .goto (-21), 113, (89, 0, 0, 0, 0, 0)), (113, .iload 5, 115, (0, 0, 0, 0, 0, 0)), (115, .iconst 1, 116, (0, 0, 0, 0, 1, 0)), (116, .iload 7, 118, (0, 0, 0, 0, 0, 0)), (118, .ishl, 119, (0, 0, 0, 0, 0, 0)), (119, .ior, 120, (0, 0, 0, 0, 0, 0)), (120, .istore 5, 122, (0, 0, 0, 0, 0, 0)), (122, .iinc 6 1, 125, (0, 0, 0, 0, 1, 0)), (125, .goto (-93), 128, (32, 0, 0, 0, 0, 0)), (128, .lload_n 3, 129, (0, 0, 0, 0, 0, 0)), (129, .lreturn, 130, (0, 0, 0, 0, 0, 0))]
theorem okX6_numberOf : zv_ok 9 cX6_numberOf RX6 zt vwCl tbX6_numberOf = true := by decide +kernel
theorem dzX6_numberOf_1 : decode cX6_numberOf 1 = .ok (.invokevirtual 41, 3) := by decide +kernel
theorem dzX6_numberOf_23 : decode cX6_numberOf 23 = .ok (.lreturn, 1) := by decide +kernel
theorem dzX6_numberOf_62 : decode cX6_numberOf 62 = .ok (.invokevirtual 62, 3) := by decide +kernel
theorem dzX6_numberOf_76 : decode cX6_numberOf 76 = .ok (.invokevirtual 66, 3) := by decide +kernel
theorem dzX6_numberOf_85 : decode cX6_numberOf 85 = .ok (.lreturn, 1) := by decide +kernel
theorem dzX6_numberOf_102 : decode cX6_numberOf 102 = .ok (.invokevirtual 54, 3) := by decide +kernel
theorem dzX6_numberOf_129 : decode cX6_numberOf 129 = .ok (.lreturn, 1) := by decide +kernel
set_option maxRecDepth 100000 in
theorem inX6_numberOf : Jvm.Cond.code yX6_numberOf cX6_numberOf 9 ((some .long)) ∈ zt := List.mem_filter.mpr ⟨List.mem_append_right _ (List.mem_of_getElem? (i := 508) rfl), rfl⟩
def tbX6_rowsOnFrom : List zv_I := [(0, .aload_n 0, 1, (0, 0, 0, 0, 0, 0)), (1, .getfield 25, 4, (0, 6, 0, 0, 0, 0)), (4, .iload_n 1, 5, (0, 0, 0, 0, 0, 0)), (5, .iload_n 2, 6, (0, 0, 0, 0, 0, 0)), (6, .invokevirtual 66, 9, (0, 0, 0, 0, 0, 0)), (9, .ifCond .eq 16, 12, (25, 0, 0, 0, 0, 0)), (12, .aload_n 0, 13, (0, 0, 0, 0, 0, 0)), (13, .getfield 15, 16, (0, 6, 2, 0, 0, 0)), (16, .iload_n 1, 17, (0, 0, 0, 0, 0, 0)), (17, .iconst 1, 18, (0, 0, 0, 0, 1, 0)), (18, .iload_n 2, 19, (0, 0, 0, 0, 0, 0)), (19, .ishl, 20, (0, 0, 0, 0, 0, 0)), (20, .ior, 21, (0, 0, 0, 0, 0, 0)), (21, .laload, 22, (5, 1, 0, 1, 0, 0)), (22, .goto 4, 25, (26, 0, 0, 0, 0, 0)), (25, .lconst 0, 26, (0, 0, 0, 0, 0, 0)), (26, .lreturn, 27, (0, 0, 0, 0, 0, 0))]
theorem okX6_rowsOnFrom : zv_ok 3 cX6_rowsOnFrom RX6 zt vwCl tbX6_rowsOnFrom = true := by decide +kernel
theorem dzX6_rowsOnFrom_6 : decode cX6_rowsOnFrom 6 = .ok (.invokevirtual 66, 3) := by decide +kernel
theorem dzX6_rowsOnFrom_26 : decode cX6_rowsOnFrom 26 = .ok (.lreturn, 1) := by decide +kernel
set_option maxRecDepth 100000 in
theorem inX6_rowsOnFrom : Jvm.Cond.code yX6_rowsOnFrom cX6_rowsOnFrom 3 ((some .long)) ∈ zt := List.mem_filter.mpr ⟨List.mem_append_right _ (List.mem_of_getElem? (i := 478) rfl), rfl⟩
def tbX6_refreshBeginnings : List zv_I := [(0, .aload_n 0, 1, (0, 0, 0, 0, 0, 0)), (1, .getfield 18, 4, (0, 6, 4, 0, 0, 0)), (4, .aload_n 0, 5, (0, 0, 0, 0, 0, 0)), (5, .getfield 25, 8, (0, 6, 0, 0, 0, 0)), (8, .getfield 70, 11, (1, 4, 3, 0, 0, 0)), (11, .if_icmp .eq 31, 14, (42, 0, 0, 0, 0, 0)), (14, .aload_n 0, 15, (0, 0, 0, 0, 0, 0)), (15, .aload_n 0, 16, (0, 0, 0, 0, 0, 0)), (16, .getfield 25, 19, (0, 6, 0, 0, 0, 0)), (19, .getfield 70, 22, (1, 4, 3, 0, 0, 0)), (22, .putfield 18, 25, (0, 6, 4, 0, 0, 0)), (25, .aload_n 0, 26, (0, 0, 0, 0, 0, 0)), (26, .iconst 1, 27, (0, 0, 0, 0, 1, 0)), (27, .aload_n 0, 28, (0, 0, 0, 0, 0, 0)), (28, .getfield 25, 31, (0, 6, 0, 0, 0, 0)), (31, .getfield 59, 34, (1, 4, 2, 0, 0, 0)), (34, .ishl, 35, (0, 0, 0, 0, 0, 0)), (35, .invokevirtual 73, 38, (0, 0, 0, 0, 0, 0)), (38, .aload_n 0, 39, (0, 0, 0, 0, 0, 0)), (39, .invokevirtual 77, 42, (0, 0, 0, 0, 0, 0)), (42, .return_, 43, (0, 0, 0, 0, 0, 0))]
theorem okX6_refreshBeginnings : zv_ok 1 cX6_refreshBeginnings RX6 zt vwCl tbX6_refreshBeginnings = true := by decide +kernel
theorem dzX6_refreshBeginnings_35 : decode cX6_refreshBeginnings 35 = .ok (.invokevirtual 73, 3) := by decide +kernel
theorem dzX6_refreshBeginnings_39 : decode cX6_refreshBeginnings 39 = .ok (.invokevirtual 77, 3) := by decide +kernel
theorem dzX6_refreshBeginnings_42 : decode cX6_refreshBeginnings 42 = .ok (.return_, 1) := by decide +kernel
set_option maxRecDepth 100000 in
theorem inX6_refreshBeginnings : Jvm.Cond.code yX6_refreshBeginnings cX6_refreshBeginnings 1 none ∈ zt := List.mem_filter.mpr ⟨List.mem_append_right _ (List.mem_of_getElem? (i := 352) rfl), rfl⟩
def tbX6_refreshEndings : List zv_I := [(0, .aload_n 0, 1, (0, 0, 0, 0, 0, 0)), (1, .invokevirtual 29, 4, (0, 0, 0, 0, 0, 0)), (4, .aload_n 0, 5, (0, 0, 0, 0, 0, 0)), (5, .getfield 22, 8, (0, 6, 5, 0, 0, 0)), (8, .aload_n 0, 9, (0, 0, 0, 0, 0, 0)), (9, .getfield 25, 12, (0, 6, 0, 0, 0, 0)), (12, .getfield 70, 15, (1, 4, 3, 0, 0, 0)), (15, .if_icmp .eq 18, 18, (33, 0, 0, 0, 0, 0)), (18, .aload_n 0, 19, (0, 0, 0, 0, 0, 0)), (19, .aload_n 0, 20, (0, 0, 0, 0, 0, 0)), (20, .getfield 25, 23, (0, 6, 0, 0, 0, 0)), (23, .getfield 70, 26, (1, 4, 3, 0, 0, 0)), (26, .putfield 22, 29, (0, 6, 5, 0, 0, 0)), (29, .aload_n 0, 30, (0, 0, 0, 0, 0, 0)), (30, .invokevirtual 80, 33, (0, 0, 0, 0, 0, 0)), (33, .return_, 34, (0, 0, 0, 0, 0, 0))]
theorem okX6_refreshEndings : zv_ok 1 cX6_refreshEndings RX6 zt vwCl tbX6_refreshEndings = true := by decide +kernel
theorem dzX6_refreshEndings_1 : decode cX6_refreshEndings 1 = .ok (.invokevirtual 29, 3) := by decide +kernel
theorem dzX6_refreshEndings_30 : decode cX6_refreshEndings 30 = .ok (.invokevirtual 80, 3) := by decide +kernel
theorem dzX6_refreshEndings_33 : decode cX6_refreshEndings 33 = .ok (.return_, 1) := by decide +kernel
set_option maxRecDepth 100000 in
theorem inX6_refreshEndings : Jvm.Cond.code yX6_refreshEndings cX6_refreshEndings 1 none ∈ zt := List.mem_filter.mpr ⟨List.mem_append_right _ (List.mem_of_getElem? (i := 462) rfl), rfl⟩
def tbX6_makeRoom : List zv_I := [(0, .aload_n 0, 1, (0, 0, 0, 0, 0, 0)), (1, .getfield 9, 4, (0, 6, 1, 0, 0, 0)), (4, .arraylength, 5, (4, 1, 0, 1, 0, 0)), (5, .iload_n 1, 6, (0, 0, 0, 0, 0, 0)), (6, .if_icmp .ge 17, 9, (23, 0, 0, 0, 0, 0)), (9, .aload_n 0, 10, (0, 0, 0, 0, 0, 0)), (10, .iload_n 1, 11, (0, 0, 0, 0, 0, 0)), (11, .newarray .long, 13, (0, 0, 0, 0, 0, 0)), (13, .putfield 9, 16, (0, 6, 1, 2, 0, 0)), (16, .aload_n 0, 17, (0, 0, 0, 0, 0, 0)), (17, .iload_n 1, 18, (0, 0, 0, 0, 0, 0)), (18, .newarray .long, 20, (0, 0, 0, 0, 0, 0)), (20, .putfield 15, 23, (0, 6, 2, 2, 0, 0)), (23, .return_, 24, (0, 0, 0, 0, 0, 0))]
theorem okX6_makeRoom : zv_ok 2 cX6_makeRoom RX6 zt vwCl tbX6_makeRoom = true := by decide +kernel
theorem dzX6_makeRoom_11 : decode cX6_makeRoom 11 = .ok (.newarray .long, 2) := by decide +kernel
theorem dzX6_makeRoom_18 : decode cX6_makeRoom 18 = .ok (.newarray .long, 2) := by decide +kernel
theorem dzX6_makeRoom_23 : decode cX6_makeRoom 23 = .ok (.return_, 1) := by decide +kernel
set_option maxRecDepth 100000 in
theorem inX6_makeRoom : Jvm.Cond.code yX6_makeRoom cX6_makeRoom 2 none ∈ zt := List.mem_filter.mpr ⟨List.mem_append_right _ (List.mem_of_getElem? (i := 356) rfl), rfl⟩
def tbX6_countBeginnings : List zv_I := [(0, .aload_n 0, 1, (0, 0, 0, 0, 0, 0)), (1, .getfield 25, 4, (0, 6, 0, 0, 0, 0)), (4, .invokevirtual 32, 7, (0, 0, 0, 0, 0, 0)), (7, .istore_n 1, 8, (0, 0, 0, 0, 0, 0)), (8, .aload_n 0, 9, (0, 0, 0, 0, 0, 0)), (9, .getfield 9, 12, (0, 6, 1, 0, 0, 0)), (12, .lconst 0, 13, (0, 0, 0, 0, 0, 0)), (13, .invokestatic 83, 16, (0, 0, 0, 0, 0, 0)), (16, .aload_n 0, 17, (0, 0, 0, 0, 0, 0)), (17, .getfield 9, 20, (0, 6, 1, 0, 0, 0)), (20, .iconst 0, 21, (0, 0, 0, 0, 0, 0)), (21, .lconst 1, 22, (0, 0, 0, 0, 0, 1)), (22, .lastore, 23, (4, 1, 0, 1, 0, 0)), (23, .aload_n 0, 24, (0, 0, 0, 0, 0, 0)), (24, .iconst 0, 25, (0, 0, 0, 0, 0, 0)), (25, .putfield 38, 28, (0, 6, 3, 0, 0, 0)), (28, .iconst 0, 29, (0, 0, 0, 0, 0, 0)), (29, .istore_n 2, 30, (0, 0, 0, 0, 0, 0)), (30, .iload_n 2, 31, (0, 0, 0, 0, 0, 0)), (31, .iload_n 1, 32, (0, 0, 0, 0, 0, 0)), (32, .if_icmp .gt 40, 35, (72, 0, 0, 0, 0, 0)), (35, .aload_n 0, 36, (0, 0, 0, 0, 0, 0)), (36, .getfield 9, 39, (0, 6, 1, 0, 0, 0)), (39, .iload_n 2, 40, (0, 0, 0, 0, 0, 0)), (40, .laload, 41, (4, 1, 0, 1, 0, 0)), (41, .lconst 0, 42, (0, 0, 0, 0, 0, 0)), (42, .lcmp, 43, (0, 0, 0, 0, 0, 0)), (43, .ifCond .eq 23, 46, (66, 0, 0, 0, 0, 0)), (46, .aload_n 0, 47, (0, 0, 0, 0, 0, 0)), (47, .dup, 48, (0, 0, 0, 0, 0, 0)), (48, .getfield 38, 51, (0, 6, 3, 0, 0, 0)), (51, .iconst 1, 52, (0, 0, 0, 0, 1, 0)), (52, .iadd, 53, (0, 0, 0, 0, 0, 0)), (53, .putfield 38, 56, (0, 6, 3, 0, 0, 0)), (56, .aload_n 0, 57, (0, 0, 0, 0, 0, 0)), (57, .iload_n 2, 58, (0, 0, 0, 0, 0, 0)), (58, .iload_n 1, 59, (0, 0, 0, 0, 0, 0)), (59, .iload_n 2, 60, (0, 0, 0, 0, 0, 0)), (60, .iconst (-1), 61, (0, 0, 0, 0, (-1), 0)), (61, .ixor, 62, (0, 0, 0, 0, 0, 0)), (62, .iand, 63, (0, 0, 0, 0, 0, 0)), (63, .invokevirtual 89, 66, (0, 0, 0, 0, 0, 0)), (66, .iinc 2 1, 69, (0, 0, 0, 0, 1, 0)), (69, .goto (-39), 72, (30, 0, 0, 0, 0, 0)), (72, .return_, 73, (0, 0, 0, 0, 0, 0))]
theorem okX6_countBeginnings : zv_ok 3 cX6_countBeginnings RX6 zt vwCl tbX6_countBeginnings = true := by decide +kernel
theorem dzX6_countBeginnings_4 : decode cX6_countBeginnings 4 = .ok (.invokevirtual 32, 3) := by decide +kernel
theorem dzX6_countBeginnings_13 : decode cX6_countBeginnings 13 = .ok (.invokestatic 83, 3) := by decide +kernel
theorem dzX6_countBeginnings_63 : decode cX6_countBeginnings 63 = .ok (.invokevirtual 89, 3) := by decide +kernel
theorem dzX6_countBeginnings_72 : decode cX6_countBeginnings 72 = .ok (.return_, 1) := by decide +kernel
set_option maxRecDepth 100000 in
theorem inX6_countBeginnings : Jvm.Cond.code yX6_countBeginnings cX6_countBeginnings 3 none ∈ zt := List.mem_filter.mpr ⟨List.mem_append_right _ (List.mem_of_getElem? (i := 360) rfl), rfl⟩
def tbX6_handOn : List zv_I := [(0, .aload_n 0, 1, (0, 0, 0, 0, 0, 0)), (1, .getfield 9, 4, (0, 6, 1, 0, 0, 0)), (4, .iload_n 1, 5, (0, 0, 0, 0, 0, 0)), (5, .laload, 6, (4, 1, 0, 1, 0, 0)), (6, .lstore_n 3, 7, (0, 0, 0, 0, 0, 0)), (7, .iconst 0, 8, (0, 0, 0, 0, 0, 0)), (8, .istore 5, 10, (0, 0, 0, 0, 0, 0)), (10, .iload 5, 12, (0, 0, 0, 0, 0, 0)), (12, .aload_n 0, 13, (0, 0, 0, 0, 0, 0)), (13, .getfield 25, 16, (0, 6, 0, 0, 0, 0)), (16, .getfield 59, 19, (1, 4, 2, 0, 0, 0)), (19, .if_icmp .ge 50, 22, (69, 0, 0, 0, 0, 0)), (22, .iconst 1, 23, (0, 0, 0, 0, 1, 0)), (23, .iload 5, 25, (0, 0, 0, 0, 0, 0)), (25, .ishl, 26, (0, 0, 0, 0, 0, 0)), (26, .istore 6, 28, (0, 0, 0, 0, 0, 0)), (28, .iload_n 2, 29, (0, 0, 0, 0, 0, 0)), (29, .iload 6, 31, (0, 0, 0, 0, 0, 0)), (31, .iand, 32, (0, 0, 0, 0, 0, 0)), (32, .ifCond .eq 31, 35, (63, 0, 0, 0, 0, 0)), (35, .aload_n 0, 36, (0, 0, 0, 0, 0, 0)), (36, .getfield 25, 39, (0, 6, 0, 0, 0, 0)), (39, .getfield 93, 42, (1, 4, 0, 0, 0, 0)), (42, .iload 5, 44, (0, 0, 0, 0, 0, 0)), (44, .iaload, 45, (2, 0, 0, 0, 0, 0)), (45, .iload_n 2, 46, (0, 0, 0, 0, 0, 0)), (46, .iand, 47, (0, 0, 0, 0, 0, 0)), (47, .ifCond .ne 16, 50, (63, 0, 0, 0, 0, 0)), (50, .aload_n 0, 51, (0, 0, 0, 0, 0, 0)), (51, .getfield 9, 54, (0, 6, 1, 0, 0, 0)), (54, .iload_n 1, 55, (0, 0, 0, 0, 0, 0)), (55, .iload 6, 57, (0, 0, 0, 0, 0, 0)), (57, .ior, 58, (0, 0, 0, 0, 0, 0)), (58, .dup2, 59, (0, 0, 0, 0, 0, 0)), (59, .laload, 60, (4, 1, 0, 1, 0, 0)), (60, .lload_n 3, 61, (0, 0, 0, 0, 0, 0)), (61, .ladd, 62, (0, 0, 0, 0, 0, 0)), (62, .lastore, 63, (4, 1, 0, 1, 0, 0)), (63, .iinc 5 1, 66, (0, 0, 0, 0, 1, 0)), (66, .goto (-56), 69, (10, 0, 0, 0, 0, 0)), (69, .return_, 70, (0, 0, 0, 0, 0, 0))]
theorem okX6_handOn : zv_ok 7 cX6_handOn RX6 zt vwCl tbX6_handOn = true := by decide +kernel
theorem dzX6_handOn_69 : decode cX6_handOn 69 = .ok (.return_, 1) := by decide +kernel
set_option maxRecDepth 100000 in
theorem inX6_handOn : Jvm.Cond.code yX6_handOn cX6_handOn 7 none ∈ zt := List.mem_filter.mpr ⟨List.mem_append_right _ (List.mem_of_getElem? (i := 368) rfl), rfl⟩
def tbX6_countEndings : List zv_I := [(0, .aload_n 0, 1, (0, 0, 0, 0, 0, 0)), (1, .getfield 25, 4, (0, 6, 0, 0, 0, 0)), (4, .invokevirtual 32, 7, (0, 0, 0, 0, 0, 0)), (7, .istore_n 1, 8, (0, 0, 0, 0, 0, 0)), (8, .aload_n 0, 9, (0, 0, 0, 0, 0, 0)), (9, .getfield 15, 12, (0, 6, 2, 0, 0, 0)), (12, .iload_n 1, 13, (0, 0, 0, 0, 0, 0)), (13, .lconst 1, 14, (0, 0, 0, 0, 0, 1)), (14, .lastore, 15, (5, 1, 0, 1, 0, 0)), (15, .iload_n 1, 16, (0, 0, 0, 0, 0, 0)), (16, .iconst 1, 17, (0, 0, 0, 0, 1, 0)), (17, .isub, 18, (0, 0, 0, 0, 0, 0)), (18, .istore_n 2, 19, (0, 0, 0, 0, 0, 0)), (19, .iload_n 2, 20, (0, 0, 0, 0, 0, 0)), (20, .ifCond .lt 36, 23, (56, 0, 0, 0, 0, 0)), (23, .aload_n 0, 24, (0, 0, 0, 0, 0, 0)), (24, .getfield 9, 27, (0, 6, 1, 0, 0, 0)), (27, .iload_n 2, 28, (0, 0, 0, 0, 0, 0)), (28, .laload, 29, (4, 1, 0, 1, 0, 0)), (29, .lconst 0, 30, (0, 0, 0, 0, 0, 0)), (30, .lcmp, 31, (0, 0, 0, 0, 0, 0)), (31, .ifCond .eq 19, 34, (50, 0, 0, 0, 0, 0)), (34, .aload_n 0, 35, (0, 0, 0, 0, 0, 0)), (35, .getfield 15, 38, (0, 6, 2, 0, 0, 0)), (38, .iload_n 2, 39, (0, 0, 0, 0, 0, 0)), (39, .aload_n 0, 40, (0, 0, 0, 0, 0, 0)), (40, .iload_n 2, 41, (0, 0, 0, 0, 0, 0)), (41, .iload_n 1, 42, (0, 0, 0, 0, 0, 0)), (42, .iload_n 2, 43, (0, 0, 0, 0, 0, 0)), (43, .iconst (-1), 44, (0, 0, 0, 0, (-1), 0)), (44, .ixor, 45, (0, 0, 0, 0, 0, 0)), (45, .iand, 46, (0, 0, 0, 0, 0, 0)), (46, .invokevirtual 97, 49, (0, 0, 0, 0, 0, 0)), (49, .lastore, 50, (5, 1, 0, 1, 0, 0)), (50, .iinc 2 (-1), 53, (0, 0, 0, 0, (-1), 0)), (53, .goto (-34), 56, (19, 0, 0, 0, 0, 0)), (56, .return_, 57, (0, 0, 0, 0, 0, 0))]
theorem okX6_countEndings : zv_ok 3 cX6_countEndings RX6 zt vwCl tbX6_countEndings = true := by decide +kernel
theorem dzX6_countEndings_4 : decode cX6_countEndings 4 = .ok (.invokevirtual 32, 3) := by decide +kernel
theorem dzX6_countEndings_46 : decode cX6_countEndings 46 = .ok (.invokevirtual 97, 3) := by decide +kernel
theorem dzX6_countEndings_56 : decode cX6_countEndings 56 = .ok (.return_, 1) := by decide +kernel
set_option maxRecDepth 100000 in
theorem inX6_countEndings : Jvm.Cond.code yX6_countEndings cX6_countEndings 3 none ∈ zt := List.mem_filter.mpr ⟨List.mem_append_right _ (List.mem_of_getElem? (i := 466) rfl), rfl⟩
def tbX6_sumOfEndings : List zv_I := [(0, .lconst 0, 1, (0, 0, 0, 0, 0, 0)), (1, .lstore_n 3, 2, (0, 0, 0, 0, 0, 0)), (2, .iconst 0, 3, (0, 0, 0, 0, 0, 0)), (3, .istore 5, 5, (0, 0, 0, 0, 0, 0)), (5, .iload 5, 7, (0, 0, 0, 0, 0, 0)), (7, .aload_n 0, 8, (0, 0, 0, 0, 0, 0)), (8, .getfield 25, 11, (0, 6, 0, 0, 0, 0)), (11, .getfield 59, 14, (1, 4, 2, 0, 0, 0)), (14, .if_icmp .ge 49, 17, (63, 0, 0, 0, 0, 0)), (17, .iconst 1, 18, (0, 0, 0, 0, 1, 0)), (18, .iload 5, 20, (0, 0, 0, 0, 0, 0)), (20, .ishl, 21, (0, 0, 0, 0, 0, 0)), (21, .istore 6, 23, (0, 0, 0, 0, 0, 0)), (23, .iload_n 2, 24, (0, 0, 0, 0, 0, 0)), (24, .iload 6, 26, (0, 0, 0, 0, 0, 0)), (26, .iand, 27, (0, 0, 0, 0, 0, 0)), (27, .ifCond .eq 30, 30, (57, 0, 0, 0, 0, 0)), (30, .aload_n 0, 31, (0, 0, 0, 0, 0, 0)), (31, .getfield 25, 34, (0, 6, 0, 0, 0, 0)), (34, .getfield 93, 37, (1, 4, 0, 0, 0, 0)), (37, .iload 5, 39, (0, 0, 0, 0, 0, 0)), (39, .iaload, 40, (2, 0, 0, 0, 0, 0)), (40, .iload_n 2, 41, (0, 0, 0, 0, 0, 0)), (41, .iand, 42, (0, 0, 0, 0, 0, 0)), (42, .ifCond .ne 15, 45, (57, 0, 0, 0, 0, 0)), (45, .lload_n 3, 46, (0, 0, 0, 0, 0, 0)), (46, .aload_n 0, 47, (0, 0, 0, 0, 0, 0)), (47, .getfield 15, 50, (0, 6, 2, 0, 0, 0)), (50, .iload_n 1, 51, (0, 0, 0, 0, 0, 0)), (51, .iload 6, 53, (0, 0, 0, 0, 0, 0)), (53, .ior, 54, (0, 0, 0, 0, 0, 0)), (54, .laload, 55, (5, 1, 0, 1, 0, 0)), (55, .ladd, 56, (0, 0, 0, 0, 0, 0)), (56, .lstore_n 3, 57, (0, 0, 0, 0, 0, 0)), (57, .iinc 5 1, 60, (0, 0, 0, 0, 1, 0)), (60, .goto (-55), 63, (5, 0, 0, 0, 0, 0)), (63, .lload_n 3, 64, (0, 0, 0, 0, 0, 0)), (64, .lreturn, 65, (0, 0, 0, 0, 0, 0))]
theorem okX6_sumOfEndings : zv_ok 7 cX6_sumOfEndings RX6 zt vwCl tbX6_sumOfEndings = true := by decide +kernel
theorem dzX6_sumOfEndings_64 : decode cX6_sumOfEndings 64 = .ok (.lreturn, 1) := by decide +kernel
set_option maxRecDepth 100000 in
theorem inX6_sumOfEndings : Jvm.Cond.code yX6_sumOfEndings cX6_sumOfEndings 7 ((some .long)) ∈ zt := List.mem_filter.mpr ⟨List.mem_append_right _ (List.mem_of_getElem? (i := 470) rfl), rfl⟩
end
section
/-! ROW TABLE: makeRoom, handOn, countBeginnings -/
abbrev wR (K : zK) (r o b a g e : Nat) (bl ab : Nat → Nat) (n : Nat) (ver : Int32) (B E : Nat → Int64) (cap : Nat) (idl bs es : Int32) : va_W := [(r, .inr (6, [.ref o, .ref g, .ref e, .int idl, .int bs, .int es])), (o, .inr (4, [.ref b, .ref a, .int (nI n), .int ver])), (b, .inl (cI K, 14, .inl (fun j => nI (bl j)))), (a, .inl (cI K, 14, .inl (fun j => nI (ab j)))), (g, .inl (cJ K, cap, .inr (.inl B))), (e, .inl (cJ K, cap, .inr (.inl E)))]
def capM (cap sets : Nat) : Nat := if cap < sets then sets else cap
theorem capM_le (cap sets : Nat) : cap ≤ capM cap sets := by
  unfold capM
  split <;> omega
set_option maxHeartbeats 4000000 in
set_option maxRecDepth 100000 in
/-- rows of longs: 2 cells, twice as many slots as there are sets; counted by how much the room grows -/
theorem c_makeRoom (K : zK) (r o b a g e : Nat) (bl ab : Nat → Nat) (n : Nat) (ver : Int32) (B E : Nat → Int64) (cap sets : Nat) (idl bs es : Int32) (hc : cap ≤ 16384) (hs : sets ≤ 16384) (h2 : cap < sets → 2 * cap ≤ sets ∧ 2 ≤ cap) :
    zM (S := Nat × Nat × (Nat → Int64) × (Nat → Int64)) K yX6_makeRoom cX6_makeRoom 2 none (zq 0 (capM cap sets - cap) (4 * (capM cap sets - cap)) 0) [.ref r, .int (nI sets)] (wR K r o b a g e bl ab n ver B E cap idl bs es) (fun u => sets ≤ cap → u.2.2.1 = B ∧ u.2.2.2 = E) (fun _ => none) (fun u => wR K r o b a u.1 u.2.1 bl ab n ver u.2.2.1 u.2.2.2 (capM cap sets) idl bs es) := by
  refine zo (by decide) (Nat.le_of_ble_eq_true rfl) fun x C R _ => ?_
  refine zv_go C okX6_makeRoom [] 20 ?_
  refine ⟨rfl, ⟨rfl, rfl⟩, fun h => ?_, fun h => ?_⟩
  · have hle : sets ≤ cap := (nI_leI (by omega) (by omega)).mp h
    have e9 : capM cap sets = cap := if_neg (by omega)
    exact zr R (g, e, B, E) [0, 1, 2, 3, 4, 5] none (wR K r o b a g e bl ab n ver B E cap idl bs es) rfl (by rw [e9]) (fun _ => ⟨rfl, rfl⟩) rfl rfl (Nat.zero_le _) (Nat.zero_le _) dzX6_makeRoom_23
  · have hlt : cap < sets := by
      rcases Nat.lt_or_ge cap sets with q | q
      · exact q
      · exact absurd ((nI_leI (by omega) (by omega)).mpr q) h
    have e1 : capM cap sets = sets := if_pos hlt
    obtain ⟨q1, q2⟩ := h2 hlt
    refine zv_newa C (atype := .long) 1 1 (N' := sets) (a0 := (sets, .inr (.inl (fun _ => 0)))) rfl zk_arrJ rfl (fun _ => rfl) rfl (nI_pos (by omega)) (nI_clamp (by omega)) (by show sets * 8 ≤ _; omega) dzX6_makeRoom_11 (by show 0 + 1 ≤ capM cap sets - cap; rw [e1]; omega) (by show 0 + sets ≤ 4 * (capM cap sets - cap); rw [e1]; omega) rfl (fun u => ?_)
    refine zv_cells C [0, 1, 2, 3, 6, 5] rfl (ws' := [(r, .inr (6, [.ref o, .ref g, .ref e, .int idl, .int bs, .int es])), (o, .inr (4, [.ref b, .ref a, .int (nI n), .int ver])), (b, .inl (cI K, 14, .inl (fun j => nI (bl j)))), (a, .inl (cI K, 14, .inl (fun j => nI (ab j)))), (u, .inl (cJ K, sets, .inr (.inl (fun _ => 0)))), (e, .inl (cJ K, cap, .inr (.inl E)))]) rfl ?_
    refine zv_go C okX6_makeRoom [] 3 ?_
    refine ⟨rfl, ?_⟩
    refine zv_newa C (atype := .long) 1 1 (N' := sets) (a0 := (sets, .inr (.inl (fun _ => 0)))) rfl zk_arrJ rfl (fun _ => rfl) rfl (nI_pos (by omega)) (nI_clamp (by omega)) (by show sets * 8 ≤ _; omega) dzX6_makeRoom_18 (by show 0 + 1 + 1 ≤ capM cap sets - cap; rw [e1]; omega) (by show 0 + sets + sets ≤ 4 * (capM cap sets - cap); rw [e1]; omega) rfl (fun w => ?_)
    refine zv_cells C [0, 1, 2, 3, 4, 6] rfl (ws' := [(r, .inr (6, [.ref o, .ref u, .ref e, .int idl, .int bs, .int es])), (o, .inr (4, [.ref b, .ref a, .int (nI n), .int ver])), (b, .inl (cI K, 14, .inl (fun j => nI (bl j)))), (a, .inl (cI K, 14, .inl (fun j => nI (ab j)))), (u, .inl (cJ K, sets, .inr (.inl (fun _ => 0)))), (w, .inl (cJ K, sets, .inr (.inl (fun _ => 0))))]) rfl ?_
    refine zv_go C okX6_makeRoom [] 3 ?_
    refine ⟨rfl, ?_⟩
    exact zr R (u, w, fun _ => 0, fun _ => 0) [0, 1, 2, 3, 4, 5] none (wR K r o b a u w bl ab n ver (fun _ => 0) (fun _ => 0) sets idl bs es) rfl (by rw [e1]) (fun q => absurd q (by omega)) rfl rfl (by show 0 + 1 + 1 ≤ capM cap sets - cap; rw [e1]; omega) (by show 0 + sets + sets ≤ 4 * (capM cap sets - cap); rw [e1]; omega) dzX6_makeRoom_23
theorem lg_c0 (x : Int64) : lg_cmp x 0 = 0 ↔ x = 0 := lg_cmp_eq x 0
/-- may thing v come next, by the sets below: it is missing, and nothing below it is -/
def mayB (bl : Nat → Nat) (mis v : Nat) : Bool := mis.testBit v && decide (bl v &&& mis = 0)
def hoS (bl : Nat → Nat) (s mis : Nat) (ways : Int64) (B : Nat → Int64) : Nat → (Nat → Int64)
  | 0 => B
  | k + 1 => if mayB bl mis k = true then vp_updL (hoS bl s mis ways B k) (s ||| 2 ^ k) (hoS bl s mis ways B k (s ||| 2 ^ k) + ways) else hoS bl s mis ways B k
set_option maxHeartbeats 4000000 in
set_option maxRecDepth 100000 in
theorem c_handOn (K : zK) (r o b a g e : Nat) (bl ab : Nat → Nat) (n : Nat) (ver : Int32) (B E : Nat → Int64) (cap : Nat) (idl bs es : Int32) {s mis : Nat} (hs : s < 2 ^ n) (hm : mis < 2 ^ 14) (hn : n ≤ 14) (hb : ∀ j, bl j < 2 ^ 14) (hcap : 2 ^ n ≤ cap) (hc : cap ≤ 16384) :
    zD K yX6_handOn cX6_handOn 7 none (zq 0 0 0 0) [.ref r, .int (nI s), .int (nI mis)] (wR K r o b a g e bl ab n ver B E cap idl bs es) none (wR K r o b a g e bl ab n ver (hoS bl s mis (B s) B n) E cap idl bs es) := by
  refine zo (by decide) (Nat.le_of_ble_eq_true rfl) fun x C R _ => ?_
  have ecs : (nI s).toNatClampNeg = s := nI_clamp (by omega)
  have loop : ∀ mm k (lv2 : zv_L), k + mm = n → (lv2 = [] ∨ ∃ z, lv2 = [(6, .int z)]) → zv_V x (gz K (zq 0 0 0 0) 7 cX6_handOn yX6_handOn.cls) 10 ([(0, .ref r), (1, .int (nI s)), (2, .int (nI mis)), (3, .long (B s)), (5, .int (nI k))] ++ lv2) [] (wR K r o b a g e bl ab n ver (hoS bl s mis (B s) B k) E cap idl bs es) 0 0 := by
    intro mm
    induction mm with
    | zero =>
      intro k lv2 hk hl2
      have e1 : k = n := by omega
      refine zv_drop C [0, 1, 2, 3, 4] (lv' := [(0, .ref r), (1, .int (nI s)), (2, .int (nI mis)), (3, .long (B s)), (5, .int (nI k))]) (by rcases hl2 with rfl | ⟨z, rfl⟩ <;> rfl) ?_
      subst e1
      refine zv_go C okX6_handOn [] 20 ?_
      refine ⟨rfl, rfl, fun _ => ?_, fun h => absurd (nI_le (Nat.le_refl _) (by omega)) h⟩
      exact zr R () [0, 1, 2, 3, 4, 5] none _ rfl rfl trivial rfl rfl (Nat.le_refl _) (Nat.le_refl _) dzX6_handOn_69
    | succ mm ih =>
      intro k lv2 hk hl2
      have htl : s ||| 2 ^ k < 2 ^ n := nb_lt_or hs (nb_lt_pow (by omega))
      refine zv_drop C [0, 1, 2, 3, 4] (lv' := [(0, .ref r), (1, .int (nI s)), (2, .int (nI mis)), (3, .long (B s)), (5, .int (nI k))]) (by rcases hl2 with rfl | ⟨z, rfl⟩ <;> rfl) ?_
      refine zv_go C okX6_handOn [10] 60 ?_
      have ebl : (fun j => nI (bl j)) (nI k).toNatClampNeg &&& nI mis = nI (bl k &&& mis) := by rw [nI_clamp (by omega), nb_and]
      have etg : nI s ||| (1 : Int32) <<< (nI k &&& 31) = nI (s ||| 2 ^ k) := by rw [nb_1s k (by omega), nb_or]
      refine ⟨rfl, rfl, fun h => absurd h (nI_ge (by omega) (by omega)), fun _ => ⟨fun h => ?_, fun h => ⟨rfl, rfl, ⟨rfl, rfl⟩, vp_in_nI (by omega) (by decide), fun h2 => ?_, fun h2 => ⟨rfl, ⟨rfl, rfl⟩, ?_, ⟨rfl, rfl⟩, ?_, ?_⟩⟩⟩⟩
      · rw [nb_t0 (Nat.lt_trans hm (by decide)) (by omega)] at h
        refine zv_to C (lv' := [(0, .ref r), (1, .int (nI s)), (2, .int (nI mis)), (3, .long (B s)), (5, .int (nI (k + 1))), (6, .int ((1 : Int32) <<< (nI k &&& 31)))]) (by rw [← nI_1] <;> rfl) rfl (ws' := wR K r o b a g e bl ab n ver (hoS bl s mis (B s) B (k + 1)) E cap idl bs es) ?_ (ih (k + 1) [_] (by omega) (Or.inr ⟨_, rfl⟩))
        rw [hoS, if_neg (by unfold mayB; rw [h]; simp)]
      · have h2 : ¬ ((fun j => nI (bl j)) (nI k).toNatClampNeg &&& nI mis = 0) := h2
        rw [ebl, nb_0 (Nat.lt_of_le_of_lt Nat.and_le_left (Nat.lt_trans (hb k) (by decide)))] at h2
        refine zv_to C (lv' := [(0, .ref r), (1, .int (nI s)), (2, .int (nI mis)), (3, .long (B s)), (5, .int (nI (k + 1))), (6, .int ((1 : Int32) <<< (nI k &&& 31)))]) (by rw [← nI_1] <;> rfl) rfl (ws' := wR K r o b a g e bl ab n ver (hoS bl s mis (B s) B (k + 1)) E cap idl bs es) ?_ (ih (k + 1) [_] (by omega) (Or.inr ⟨_, rfl⟩))
        rw [hoS, if_neg (by unfold mayB; rw [decide_eq_false h2, Bool.and_false]; simp)]
      · show vp_in (nI s ||| (1 : Int32) <<< (nI k &&& 31)) cap
        rw [etg]
        exact vp_in_nI (by omega) (by omega)
      · show vp_in (nI s ||| (1 : Int32) <<< (nI k &&& 31)) cap
        rw [etg]
        exact vp_in_nI (by omega) (by omega)
      · rw [nb_t1 (Nat.lt_trans hm (by decide)) (by omega)] at h
        have h2 : (fun j => nI (bl j)) (nI k).toNatClampNeg &&& nI mis = 0 := h2
        rw [ebl, nb_0 (Nat.lt_of_le_of_lt Nat.and_le_left (Nat.lt_trans (hb k) (by decide)))] at h2
        refine zv_to C (lv' := [(0, .ref r), (1, .int (nI s)), (2, .int (nI mis)), (3, .long (B s)), (5, .int (nI (k + 1))), (6, .int ((1 : Int32) <<< (nI k &&& 31)))]) (by rw [← nI_1] <;> rfl) rfl (ws' := wR K r o b a g e bl ab n ver (hoS bl s mis (B s) B (k + 1)) E cap idl bs es) ?_ (ih (k + 1) [_] (by omega) (Or.inr ⟨_, rfl⟩))
        rw [hoS, if_pos (by unfold mayB; rw [h, decide_eq_true h2]; rfl)]
        have ec : (nI s ||| (1 : Int32) <<< (nI k &&& 31)).toNatClampNeg = s ||| 2 ^ k := by rw [etg]; exact nI_clamp (by omega)
        show [_, _, _, _, (g, Sum.inl (cJ K, cap, Sum.inr (Sum.inl (vp_updL (hoS bl s mis (B s) B k) (nI s ||| (1 : Int32) <<< (nI k &&& 31)).toNatClampNeg (hoS bl s mis (B s) B k (nI s ||| (1 : Int32) <<< (nI k &&& 31)).toNatClampNeg + B s))))), _] = _
        rw [ec]
  refine zv_go C okX6_handOn [10] 20 ?_
  refine ⟨rfl, ⟨rfl, rfl⟩, vp_in_nI (by omega) (by omega), ?_⟩
  refine zv_to C (lv' := [(0, .ref r), (1, .int (nI s)), (2, .int (nI mis)), (3, .long (B s)), (5, .int (nI 0))]) ?_ rfl rfl (loop n 0 [] (by omega) (Or.inl rfl))
  show [(0, Value.ref r), (1, .int (nI s)), (2, .int (nI mis)), (3, .long (B (nI s).toNatClampNeg)), (5, .int 0)] = _
  rw [ecs]
  rfl
end
section
/-! ROW TABLE: countBeginnings, sumOfEndings, countEndings -/
/-- the table of beginnings when the sets below k have handed on; how many of them are ideals -/
def cbS (bl : Nat → Nat) (n : Nat) : Nat → (Nat → Int64) × Nat
  | 0 => (vp_updL (fun _ => 0) 0 1, 0)
  | k + 1 => if (cbS bl n k).1 k = 0 then cbS bl n k else (hoS bl k (ndf (2 ^ n - 1) k) ((cbS bl n k).1 k) (cbS bl n k).1 n, (cbS bl n k).2 + 1)
def rBeg (bl : Nat → Nat) (n : Nat) : Nat → Int64 := (cbS bl n (2 ^ n)).1
def rIdl (bl : Nat → Nat) (n : Nat) : Nat := (cbS bl n (2 ^ n)).2
theorem pow_le14 {n : Nat} (hn : n ≤ 14) : 2 ^ n ≤ 16384 := Nat.pow_le_pow_right (n := 2) (by decide) hn
set_option maxHeartbeats 4000000 in
set_option maxRecDepth 100000 in
theorem c_countBeginnings (K : zK) (r o b a g e : Nat) (bl ab : Nat → Nat) (n : Nat) (ver : Int32) (B E : Nat → Int64) (cap : Nat) (idl bs es : Int32) (hn : n ≤ 14) (hb : ∀ j, bl j < 2 ^ 14) (hcap : 2 ^ n ≤ cap) (hc : cap ≤ 16384) :
    zD K yX6_countBeginnings cX6_countBeginnings 3 none (zq 1 0 0 26) [.ref r] (wR K r o b a g e bl ab n ver B E cap idl bs es) none (wR K r o b a g e bl ab n ver (rBeg bl n) E cap (nI (rIdl bl n)) bs es) := by
  have hp : 0 < 2 ^ n := Nat.two_pow_pos n
  have hp14 := pow_le14 hn
  refine zo (by decide) (Nat.le_of_ble_eq_true rfl) fun x C R _ => ?_
  have loop : ∀ mm k, k + mm = 2 ^ n → zv_V x (gz K (zq 1 0 0 26) 3 cX6_countBeginnings yX6_countBeginnings.cls) 30 [(0, .ref r), (1, .int (nI (2 ^ n - 1))), (2, .int (nI k))] [] (wR K r o b a g e bl ab n ver (cbS bl n k).1 E cap (nI (cbS bl n k).2) bs es) 0 0 := by
    intro mm
    induction mm with
    | zero =>
      intro k hk
      have e1 : k = 2 ^ n := by omega
      subst e1
      refine zv_go C okX6_countBeginnings [] 20 ?_
      refine ⟨fun _ => ?_, fun h => absurd (nI_lt (by omega) (by omega)) h⟩
      exact zr R () [0, 1, 2, 3, 4, 5] none _ rfl rfl trivial rfl rfl (Nat.le_refl _) (Nat.le_refl _) dzX6_countBeginnings_72
    | succ mm ih =>
      intro k hk
      have ec : (nI k).toNatClampNeg = k := nI_clamp (by omega)
      refine zv_go C okX6_countBeginnings [30] 30 ?_
      refine ⟨fun h => absurd h (nI_nlt (by omega) (by omega)), fun _ => ⟨rfl, ⟨rfl, rfl⟩, vp_in_nI (by omega) (by omega), fun h => ?_, fun h => ⟨rfl, rfl, ?_⟩⟩⟩
      · have h : lg_cmp ((cbS bl n k).1 (nI k).toNatClampNeg) 0 = 0 := h
        rw [lg_c0, ec] at h
        have e2 : cbS bl n (k + 1) = cbS bl n k := by rw [cbS, if_pos h]
        exact zv_to C (lv' := [(0, .ref r), (1, .int (nI (2 ^ n - 1))), (2, .int (nI (k + 1)))]) (by rw [← nI_1] <;> rfl) rfl (ws' := wR K r o b a g e bl ab n ver (cbS bl n (k + 1)).1 E cap (nI (cbS bl n (k + 1)).2) bs es) (by rw [e2]) (ih (k + 1) (by omega))
      · have h : ¬ lg_cmp ((cbS bl n k).1 (nI k).toNatClampNeg) 0 = 0 := h
        rw [lg_c0, ec] at h
        have e2 : cbS bl n (k + 1) = (hoS bl k (ndf (2 ^ n - 1) k) ((cbS bl n k).1 k) (cbS bl n k).1 n, (cbS bl n k).2 + 1) := by rw [cbS, if_neg h]
        refine zv_to C rfl (st' := [.int (nI (ndf (2 ^ n - 1) k)), .int (nI k), .ref r]) (by rw [← nb_not] <;> rfl) (ws' := wR K r o b a g e bl ab n ver (cbS bl n k).1 E cap (nI ((cbS bl n k).2 + 1)) bs es) (by rw [← nI_1] <;> rfl) ?_
        refine zv_callV C (c_handOn K r o b a g e bl ab n ver (cbS bl n k).1 E cap (nI ((cbS bl n k).2 + 1)) bs es (s := k) (mis := ndf (2 ^ n - 1) k) (by omega) (Nat.lt_of_le_of_lt (ndf_le _ _) (nb_all_lt hn)) hn hb hcap hc) (zw_V inX6_handOn kX6_89 ⟨by decide, by decide⟩) [0, 1, 2, 3, 4, 5] 0 rfl rfl rfl rfl (fun _ => Nat.le_refl _) rfl rfl (by decide) dzX6_countBeginnings_63 (by decide) (by decide) rfl (fun _ _ => ?_)
        refine zv_go C okX6_countBeginnings [30] 30 ?_
        exact zv_to C (lv' := [(0, .ref r), (1, .int (nI (2 ^ n - 1))), (2, .int (nI (k + 1)))]) (by rw [← nI_1] <;> rfl) rfl (ws' := wR K r o b a g e bl ab n ver (cbS bl n (k + 1)).1 E cap (nI (cbS bl n (k + 1)).2) bs es) (by rw [e2] <;> rfl) (ih (k + 1) (by omega))
  refine zv_go C okX6_countBeginnings [] 2 ?_
  refine ⟨rfl, ?_⟩
  refine zv_callV C (c_all K o b a bl ab n ver hn) (zw_V inX4_all kX6_32 ⟨by decide, by decide⟩) [1, 2, 3] 1 rfl rfl rfl rfl (fun _ => Nat.le_refl _) rfl rfl (by decide) dzX6_countBeginnings_4 (by decide) (by decide) rfl (fun _ _ => ?_)
  refine zv_to C rfl rfl (ws' := wR K r o b a g e bl ab n ver B E cap idl bs es) rfl ?_
  refine zv_go C okX6_countBeginnings [] 4 ?_
  refine ⟨rfl, ?_⟩
  refine zv_callS C (c_fill K g cap B 0 (by omega)) (zw_S inJ7_fill_d0a16 kX6_83 ⟨by decide, by decide⟩) [4] rfl rfl (fun _ => Nat.le_refl _) rfl rfl (by decide) dzX6_countBeginnings_13 (by decide) (by decide) rfl (fun _ _ => ?_)
  refine zv_to C rfl rfl (ws' := wR K r o b a g e bl ab n ver (fun _ => 0) E cap idl bs es) rfl ?_
  refine zv_go C okX6_countBeginnings [30] 20 ?_
  refine ⟨rfl, ⟨rfl, rfl⟩, vp_in_nI (n := 0) (by omega) (by omega), rfl, ?_⟩
  exact loop (2 ^ n) 0 (by omega)
def seS (bl : Nat → Nat) (s mis : Nat) (E : Nat → Int64) : Nat → Int64
  | 0 => 0
  | k + 1 => if mayB bl mis k = true then seS bl s mis E k + E (s ||| 2 ^ k) else seS bl s mis E k
set_option maxHeartbeats 4000000 in
set_option maxRecDepth 100000 in
theorem c_sumOfEndings (K : zK) (r o b a g e : Nat) (bl ab : Nat → Nat) (n : Nat) (ver : Int32) (B E : Nat → Int64) (cap : Nat) (idl bs es : Int32) {s mis : Nat} (hs : s < 2 ^ n) (hm : mis < 2 ^ 14) (hn : n ≤ 14) (hb : ∀ j, bl j < 2 ^ 14) (hcap : 2 ^ n ≤ cap) (hc : cap ≤ 16384) :
    zD K yX6_sumOfEndings cX6_sumOfEndings 7 (some .long) (zq 0 0 0 0) [.ref r, .int (nI s), .int (nI mis)] (wR K r o b a g e bl ab n ver B E cap idl bs es) (some (.long (seS bl s mis E n))) (wR K r o b a g e bl ab n ver B E cap idl bs es) := by
  refine zo (by decide) (Nat.le_of_ble_eq_true rfl) fun x C R _ => ?_
  have loop : ∀ mm k (lv2 : zv_L), k + mm = n → (lv2 = [] ∨ ∃ z, lv2 = [(6, .int z)]) → zv_V x (gz K (zq 0 0 0 0) 7 cX6_sumOfEndings yX6_sumOfEndings.cls) 5 ([(0, .ref r), (1, .int (nI s)), (2, .int (nI mis)), (3, .long (seS bl s mis E k)), (5, .int (nI k))] ++ lv2) [] (wR K r o b a g e bl ab n ver B E cap idl bs es) 0 0 := by
    intro mm
    induction mm with
    | zero =>
      intro k lv2 hk hl2
      have e1 : k = n := by omega
      refine zv_drop C [0, 1, 2, 3, 4] (lv' := [(0, .ref r), (1, .int (nI s)), (2, .int (nI mis)), (3, .long (seS bl s mis E k)), (5, .int (nI k))]) (by rcases hl2 with rfl | ⟨z, rfl⟩ <;> rfl) ?_
      subst e1
      refine zv_go C okX6_sumOfEndings [] 20 ?_
      refine ⟨rfl, rfl, fun _ => ?_, fun h => absurd (nI_le (Nat.le_refl _) (by omega)) h⟩
      exact zr R () [0, 1, 2, 3, 4, 5] (some (.long _)) _ rfl rfl trivial rfl rfl (Nat.le_refl _) (Nat.le_refl _) dzX6_sumOfEndings_64
    | succ mm ih =>
      intro k lv2 hk hl2
      have htl : s ||| 2 ^ k < 2 ^ n := nb_lt_or hs (nb_lt_pow (by omega))
      refine zv_drop C [0, 1, 2, 3, 4] (lv' := [(0, .ref r), (1, .int (nI s)), (2, .int (nI mis)), (3, .long (seS bl s mis E k)), (5, .int (nI k))]) (by rcases hl2 with rfl | ⟨z, rfl⟩ <;> rfl) ?_
      refine zv_go C okX6_sumOfEndings [5] 60 ?_
      have ebl : (fun j => nI (bl j)) (nI k).toNatClampNeg &&& nI mis = nI (bl k &&& mis) := by rw [nI_clamp (by omega), nb_and]
      have etg : nI s ||| (1 : Int32) <<< (nI k &&& 31) = nI (s ||| 2 ^ k) := by rw [nb_1s k (by omega), nb_or]
      refine ⟨rfl, rfl, fun h => absurd h (nI_ge (by omega) (by omega)), fun _ => ⟨fun h => ?_, fun h => ⟨rfl, rfl, ⟨rfl, rfl⟩, vp_in_nI (by omega) (by decide), fun h2 => ?_, fun h2 => ⟨rfl, ⟨rfl, rfl⟩, ?_, ?_⟩⟩⟩⟩
      · rw [nb_t0 (Nat.lt_trans hm (by decide)) (by omega)] at h
        refine zv_to C (lv' := [(0, .ref r), (1, .int (nI s)), (2, .int (nI mis)), (3, .long (seS bl s mis E (k + 1))), (5, .int (nI (k + 1))), (6, .int ((1 : Int32) <<< (nI k &&& 31)))]) ?_ rfl rfl (ih (k + 1) [_] (by omega) (Or.inr ⟨_, rfl⟩))
        rw [seS, if_neg (by unfold mayB; rw [h]; simp), ← nI_1]
        rfl
      · have h2 : ¬ ((fun j => nI (bl j)) (nI k).toNatClampNeg &&& nI mis = 0) := h2
        rw [ebl, nb_0 (Nat.lt_of_le_of_lt Nat.and_le_left (Nat.lt_trans (hb k) (by decide)))] at h2
        refine zv_to C (lv' := [(0, .ref r), (1, .int (nI s)), (2, .int (nI mis)), (3, .long (seS bl s mis E (k + 1))), (5, .int (nI (k + 1))), (6, .int ((1 : Int32) <<< (nI k &&& 31)))]) ?_ rfl rfl (ih (k + 1) [_] (by omega) (Or.inr ⟨_, rfl⟩))
        rw [seS, if_neg (by unfold mayB; rw [decide_eq_false h2, Bool.and_false]; simp), ← nI_1]
        rfl
      · show vp_in (nI s ||| (1 : Int32) <<< (nI k &&& 31)) cap
        rw [etg]
        exact vp_in_nI (by omega) (by omega)
      · rw [nb_t1 (Nat.lt_trans hm (by decide)) (by omega)] at h
        have h2 : (fun j => nI (bl j)) (nI k).toNatClampNeg &&& nI mis = 0 := h2
        rw [ebl, nb_0 (Nat.lt_of_le_of_lt Nat.and_le_left (Nat.lt_trans (hb k) (by decide)))] at h2
        refine zv_to C (lv' := [(0, .ref r), (1, .int (nI s)), (2, .int (nI mis)), (3, .long (seS bl s mis E (k + 1))), (5, .int (nI (k + 1))), (6, .int ((1 : Int32) <<< (nI k &&& 31)))]) ?_ rfl rfl (ih (k + 1) [_] (by omega) (Or.inr ⟨_, rfl⟩))
        rw [seS, if_pos (by unfold mayB; rw [h, decide_eq_true h2]; rfl), ← nI_1]
        have ec : (nI s ||| (1 : Int32) <<< (nI k &&& 31)).toNatClampNeg = s ||| 2 ^ k := by rw [etg]; exact nI_clamp (by omega)
        show [_, _, _, (3, Value.long (seS bl s mis E k + E (nI s ||| (1 : Int32) <<< (nI k &&& 31)).toNatClampNeg)), _, _] = _
        rw [ec]
  refine zv_go C okX6_sumOfEndings [5] 20 ?_
  exact loop n 0 [] (by omega) (Or.inl rfl)
/-- the table of endings when the first m sets below all are done -/
def ceS (bl : Nat → Nat) (n : Nat) (B E : Nat → Int64) : Nat → (Nat → Int64)
  | 0 => vp_updL E (2 ^ n - 1) 1
  | m + 1 => if B (2 ^ n - 1 - (m + 1)) = 0 then ceS bl n B E m else vp_updL (ceS bl n B E m) (2 ^ n - 1 - (m + 1)) (seS bl (2 ^ n - 1 - (m + 1)) (ndf (2 ^ n - 1) (2 ^ n - 1 - (m + 1))) (ceS bl n B E m) n)
set_option maxHeartbeats 4000000 in
set_option maxRecDepth 100000 in
theorem c_countEndings (K : zK) (r o b a g e : Nat) (bl ab : Nat → Nat) (n : Nat) (ver : Int32) (B E : Nat → Int64) (cap : Nat) (idl bs es : Int32) (hn : n ≤ 14) (hb : ∀ j, bl j < 2 ^ 14) (hcap : 2 ^ n ≤ cap) (hc : cap ≤ 16384) :
    zD K yX6_countEndings cX6_countEndings 3 none (zq 1 0 0 26) [.ref r] (wR K r o b a g e bl ab n ver B E cap idl bs es) none (wR K r o b a g e bl ab n ver B (ceS bl n B E (2 ^ n - 1)) cap idl bs es) := by
  have hp : 0 < 2 ^ n := Nat.two_pow_pos n
  have hp14 := pow_le14 hn
  refine zo (by decide) (Nat.le_of_ble_eq_true rfl) fun x C R _ => ?_
  have loop : ∀ k m, k + m = 2 ^ n - 1 → zv_V x (gz K (zq 1 0 0 26) 3 cX6_countEndings yX6_countEndings.cls) 19 [(0, .ref r), (1, .int (nI (2 ^ n - 1))), (2, .int (nI k - 1))] [] (wR K r o b a g e bl ab n ver B (ceS bl n B E m) cap idl bs es) 0 0 := by
    intro k
    induction k with
    | zero =>
      intro m hk
      have e1 : m = 2 ^ n - 1 := by omega
      subst e1
      refine zv_go C okX6_countEndings [] 20 ?_
      refine ⟨fun _ => ?_, fun h => absurd (by decide) h⟩
      exact zr R () [0, 1, 2, 3, 4, 5] none _ rfl rfl trivial rfl rfl (Nat.le_refl _) (Nat.le_refl _) dzX6_countEndings_56
    | succ k ih =>
      intro m hk
      have ek : nI (k + 1) - 1 = nI k := nI_pred k
      have ek2 : nI k + (-1) = nI k - 1 := by rw [Int32.sub_eq_add_neg]
      have ec : (nI k).toNatClampNeg = k := nI_clamp (by omega)
      have ekm : 2 ^ n - 1 - (m + 1) = k := by omega
      refine zv_to C (lv' := [(0, .ref r), (1, .int (nI (2 ^ n - 1))), (2, .int (nI k))]) (by rw [ek]) rfl rfl ?_
      refine zv_go C okX6_countEndings [19] 30 ?_
      refine ⟨fun h => absurd h (nI_pos (by omega)), fun _ => ⟨rfl, ⟨rfl, rfl⟩, vp_in_nI (by omega) (by omega), fun h => ?_, fun h => ⟨rfl, ?_⟩⟩⟩
      · have h : lg_cmp (B (nI k).toNatClampNeg) 0 = 0 := h
        rw [lg_c0, ec] at h
        exact zv_to C (lv' := [(0, .ref r), (1, .int (nI (2 ^ n - 1))), (2, .int (nI k - 1))]) (by rw [← ek2] <;> rfl) rfl (ws' := wR K r o b a g e bl ab n ver B (ceS bl n B E (m + 1)) cap idl bs es) (by rw [ceS, ekm, if_pos h]) (ih (m + 1) (by omega))
      · have h : ¬ lg_cmp (B (nI k).toNatClampNeg) 0 = 0 := h
        rw [lg_c0, ec] at h
        refine zv_to C rfl (st' := [.int (nI (ndf (2 ^ n - 1) k)), .int (nI k), .ref r, .int (nI k), .ref e]) (by rw [← nb_not] <;> rfl) rfl ?_
        refine zv_callV C (c_sumOfEndings K r o b a g e bl ab n ver B (ceS bl n B E m) cap idl bs es (s := k) (mis := ndf (2 ^ n - 1) k) (by omega) (Nat.lt_of_le_of_lt (ndf_le _ _) (nb_all_lt hn)) hn hb hcap hc) (zw_V inX6_sumOfEndings kX6_97 ⟨by decide, by decide⟩) [0, 1, 2, 3, 4, 5] 0 rfl rfl rfl rfl (fun _ => Nat.le_refl _) (rest := [.int (nI k), .ref e]) rfl rfl (Nat.le_of_ble_eq_true rfl) dzX6_countEndings_46 (by decide) (by decide) rfl (fun _ _ => ?_)
        refine zv_to C rfl rfl (ws' := wR K r o b a g e bl ab n ver B (ceS bl n B E m) cap idl bs es) rfl ?_
        refine zv_go C okX6_countEndings [19] 30 ?_
        refine ⟨⟨rfl, rfl⟩, vp_in_nI (by omega) (by omega), ?_⟩
        refine zv_to C (lv' := [(0, .ref r), (1, .int (nI (2 ^ n - 1))), (2, .int (nI k - 1))]) (by rw [← ek2] <;> rfl) rfl (ws' := wR K r o b a g e bl ab n ver B (ceS bl n B E (m + 1)) cap idl bs es) ?_ (ih (m + 1) (by omega))
        rw [ceS, ekm, if_neg h]
        show [_, _, _, _, _, (e, Sum.inl (cJ K, cap, Sum.inr (Sum.inl (vp_updL (ceS bl n B E m) (nI k).toNatClampNeg _))))] = _
        rw [ec]
  refine zv_go C okX6_countEndings [] 2 ?_
  refine ⟨rfl, ?_⟩
  refine zv_callV C (c_all K o b a bl ab n ver hn) (zw_V inX4_all kX6_32 ⟨by decide, by decide⟩) [1, 2, 3] 1 rfl rfl rfl rfl (fun _ => Nat.le_refl _) rfl rfl (by decide) dzX6_countEndings_4 (by decide) (by decide) rfl (fun _ _ => ?_)
  refine zv_to C rfl rfl (ws' := wR K r o b a g e bl ab n ver B E cap idl bs es) rfl ?_
  refine zv_go C okX6_countEndings [19] 20 ?_
  refine ⟨rfl, ⟨rfl, rfl⟩, vp_in_nI (by omega) (by omega), ?_⟩
  refine zv_to C (lv' := [(0, .ref r), (1, .int (nI (2 ^ n - 1))), (2, .int (nI (2 ^ n - 1) - 1))]) rfl rfl (ws' := wR K r o b a g e bl ab n ver B (ceS bl n B E 0) cap idl bs es) ?_ (loop (2 ^ n - 1) 0 (by omega))
  show [_, _, _, _, _, (e, Sum.inl (cJ K, cap, Sum.inr (Sum.inl (vp_updL E (nI (2 ^ n - 1)).toNatClampNeg 1))))] = _
  rw [nI_clamp (by omega)]
  rfl
end
section
/-! ROW TABLE: refresh, total, ideals, rowsOnFrom, rowsWithStep -/
def pw2 (cap : Nat) : Prop := ∃ c, cap = 2 ^ c ∧ 4 ≤ c ∧ c ≤ 14
theorem pw2_le {cap : Nat} (h : pw2 cap) : 16 ≤ cap ∧ cap ≤ 16384 := by
  obtain ⟨c, rfl, h1, h2⟩ := h
  exact ⟨Nat.pow_le_pow_right (n := 2) (by decide) h1, pow_le14 h2⟩
theorem pw2_up {cap n : Nat} (h : pw2 cap) (hn : n ≤ 14) : (cap < 2 ^ n → 2 * cap ≤ 2 ^ n ∧ 2 ≤ cap) ∧ pw2 (capM cap (2 ^ n)) := by
  have h16 := pw2_le h
  obtain ⟨c, rfl, h1, h2⟩ := h
  have hlt : 2 ^ c < 2 ^ n → c < n := fun q => by
    rcases Nat.lt_or_ge c n with z | z
    · exact z
    · exact absurd (Nat.pow_le_pow_right (n := 2) (by decide) z) (by omega)
  refine ⟨fun q => ⟨?_, by omega⟩, ?_⟩
  · have h3 := hlt q
    have h4 : 2 ^ (c + 1) ≤ 2 ^ n := Nat.pow_le_pow_right (by decide) h3
    rw [Nat.pow_succ] at h4
    omega
  · unfold capM
    split
    · rename_i q
      have h3 := hlt q
      exact ⟨n, rfl, by omega, hn⟩
    · exact ⟨c, rfl, h1, h2⟩
def capB (bs ver : Int32) (n cap : Nat) : Nat := if bs = ver then cap else capM cap (2 ^ n)
abbrev zqB (f : Nat) (bs ver : Int32) (n cap l : Nat) : Room := zq f (capB bs ver n cap - cap) (4 * (capB bs ver n cap - cap)) l
/-- what the table keeps of the beginnings is true -/
def rbV (bl : Nat → Nat) (n cap : Nat) (B : Nat → Int64) (idl : Int32) : Prop := B = rBeg bl n ∧ idl = nI (rIdl bl n) ∧ 2 ^ n ≤ cap
def reV (bl : Nat → Nat) (n : Nat) (E : Nat → Int64) : Prop := ∃ E0, E = ceS bl n (rBeg bl n) E0 (2 ^ n - 1)
theorem capB_ok {bs ver : Int32} {n cap : Nat} (hp : pw2 cap) (hn : n ≤ 14) (hs : bs = ver → 2 ^ n ≤ cap) : 2 ^ n ≤ capB bs ver n cap ∧ capB bs ver n cap ≤ 16384 ∧ pw2 (capB bs ver n cap) := by
  have h := pw2_le hp
  have h2 := pow_le14 hn
  unfold capB
  split
  · exact ⟨hs (by assumption), h.2, hp⟩
  · have h3 := (pw2_up hp hn).2
    refine ⟨?_, (pw2_le h3).2, h3⟩
    unfold capM
    split <;> omega
set_option maxHeartbeats 4000000 in
set_option maxRecDepth 100000 in
theorem c_refreshB (K : zK) (r o b a g e : Nat) (bl ab : Nat → Nat) (n : Nat) (ver : Int32) (B E : Nat → Int64) (cap : Nat) (idl bs es : Int32) (hn : n ≤ 14) (hb : ∀ j, bl j < 2 ^ 14) (hp : pw2 cap) (hs : bs = ver → rbV bl n cap B idl) :
    zM (S := Nat × Nat × (Nat → Int64)) K yX6_refreshBeginnings cX6_refreshBeginnings 1 none (zqB 2 bs ver n cap 48) [.ref r] (wR K r o b a g e bl ab n ver B E cap idl bs es) (fun u => bs = ver → u.2.2 = E) (fun _ => none) (fun u => wR K r o b a u.1 u.2.1 bl ab n ver (rBeg bl n) u.2.2 (capB bs ver n cap) (nI (rIdl bl n)) ver es) := by
  have hc := pw2_le hp
  have hp14 := pow_le14 hn
  refine zo (by decide) (Nat.le_of_ble_eq_true rfl) fun x C R _ => ?_
  refine zv_go C okX6_refreshBeginnings [] 20 ?_
  refine ⟨rfl, rfl, rfl, fun h => ?_, fun h => ⟨rfl, rfl, rfl, rfl, rfl, ?_⟩⟩
  · have h : bs = ver := h
    subst h
    obtain ⟨v1, v2, -⟩ := hs rfl
    have e1 : capB bs bs n cap = cap := if_pos rfl
    exact zr R (g, e, E) [0, 1, 2, 3, 4, 5] none (wR K r o b a g e bl ab n bs B E cap idl bs es) rfl (by rw [e1, v1, v2]) (fun _ => rfl) rfl rfl (Nat.zero_le _) (Nat.zero_le _) dzX6_refreshBeginnings_42
  · have h : ¬ bs = ver := h
    have e1 : capB bs ver n cap = capM cap (2 ^ n) := if_neg h
    obtain ⟨u1, u2⟩ := pw2_up hp hn
    refine zv_to C rfl (st' := [.int (nI (2 ^ n)), .ref r]) (by rw [← nb_1s n (by omega)] <;> rfl) rfl ?_
    refine zv_callV C (c_makeRoom K r o b a g e bl ab n ver B E cap (2 ^ n) idl ver es hc.2 hp14 u1) (zw_V inX6_makeRoom kX6_73 ⟨by show 0 + 1 ≤ 2; omega, by show 8 + (2 + 11) + 0 ≤ 48; omega⟩) [0, 1, 2, 3, 4, 5] 0 rfl rfl rfl rfl (fun _ => Nat.le_refl _) rfl rfl (by decide) dzX6_refreshBeginnings_35 (by show 0 + (capM cap (2 ^ n) - cap) ≤ capB bs ver n cap - cap; rw [e1]; omega) (by show 0 + 4 * (capM cap (2 ^ n) - cap) ≤ 4 * (capB bs ver n cap - cap); rw [e1]; omega) rfl (fun u hu => ?_)
    refine zv_to C rfl rfl (ws' := wR K r o b a u.1 u.2.1 bl ab n ver u.2.2.1 u.2.2.2 (capM cap (2 ^ n)) idl ver es) rfl ?_
    refine zv_go C okX6_refreshBeginnings [] 1 ?_
    refine zv_callV C (c_countBeginnings K r o b a u.1 u.2.1 bl ab n ver u.2.2.1 u.2.2.2 (capM cap (2 ^ n)) idl ver es hn hb (by unfold capM; split <;> omega) (pw2_le u2).2) (zw_V inX6_countBeginnings kX6_77 ⟨by show 1 + 1 ≤ 2; omega, by show 8 + (3 + 11) + 26 ≤ 48; omega⟩) [0, 1, 2, 3, 4, 5] 0 rfl rfl rfl rfl (fun _ => Nat.le_refl _) rfl rfl (by decide) dzX6_refreshBeginnings_39 (by show 0 + (capM cap (2 ^ n) - cap) + 0 ≤ capB bs ver n cap - cap; rw [e1]; omega) (by show 0 + 4 * (capM cap (2 ^ n) - cap) + 0 ≤ 4 * (capB bs ver n cap - cap); rw [e1]; omega) rfl (fun _ _ => ?_)
    exact zr R (u.1, u.2.1, u.2.2.2) [0, 1, 2, 3, 4, 5] none (wR K r o b a u.1 u.2.1 bl ab n ver (rBeg bl n) u.2.2.2 (capM cap (2 ^ n)) (nI (rIdl bl n)) ver es) rfl (by rw [e1]) (fun q => absurd q h) rfl rfl (by show 0 + (capM cap (2 ^ n) - cap) + 0 ≤ capB bs ver n cap - cap; rw [e1]; omega) (by show 0 + 4 * (capM cap (2 ^ n) - cap) + 0 ≤ 4 * (capB bs ver n cap - cap); rw [e1]; omega) dzX6_refreshBeginnings_42
set_option maxHeartbeats 4000000 in
set_option maxRecDepth 100000 in
theorem c_refreshE (K : zK) (r o b a g e : Nat) (bl ab : Nat → Nat) (n : Nat) (ver : Int32) (B E : Nat → Int64) (cap : Nat) (idl bs es : Int32) (hn : n ≤ 14) (hb : ∀ j, bl j < 2 ^ 14) (hp : pw2 cap) (hs : bs = ver → rbV bl n cap B idl) (he : es = ver → bs = ver ∧ reV bl n E) :
    zM (S := Nat × Nat × (Nat → Int64)) K yX6_refreshEndings cX6_refreshEndings 1 none (zqB 3 bs ver n cap 68) [.ref r] (wR K r o b a g e bl ab n ver B E cap idl bs es) (fun u => reV bl n u.2.2) (fun _ => none) (fun u => wR K r o b a u.1 u.2.1 bl ab n ver (rBeg bl n) u.2.2 (capB bs ver n cap) (nI (rIdl bl n)) ver ver) := by
  have hcb := capB_ok hp hn (fun q => (hs q).2.2)
  refine zo (by decide) (Nat.le_of_ble_eq_true rfl) fun x C R _ => ?_
  refine zv_go C okX6_refreshEndings [] 1 ?_
  refine zv_callV C (c_refreshB K r o b a g e bl ab n ver B E cap idl bs es hn hb hp hs) (zw_V inX6_refreshBeginnings kX6_29 ⟨by show 2 + 1 ≤ 3; omega, by show 8 + (1 + 11) + 48 ≤ 68; omega⟩) [0, 1, 2, 3, 4, 5] 0 rfl rfl rfl rfl (fun _ => Nat.le_refl _) rfl rfl (by decide) dzX6_refreshEndings_1 (Nat.le_of_eq (Nat.zero_add _)) (Nat.le_of_eq (Nat.zero_add _)) rfl (fun u hu => ?_)
  refine zv_to C rfl rfl (ws' := wR K r o b a u.1 u.2.1 bl ab n ver (rBeg bl n) u.2.2 (capB bs ver n cap) (nI (rIdl bl n)) ver es) rfl ?_
  refine zv_wide C (ce' := capB bs ver n cap - cap) (sl' := 4 * (capB bs ver n cap - cap)) (Nat.le_of_eq (Nat.zero_add _)) (Nat.le_of_eq (Nat.zero_add _)) ?_
  refine zv_go C okX6_refreshEndings [] 20 ?_
  refine ⟨rfl, rfl, rfl, fun h => ?_, fun h => ⟨rfl, rfl, rfl, ?_⟩⟩
  · have h : es = ver := h
    subst h
    obtain ⟨q1, q2⟩ := he rfl
    exact zr R u [0, 1, 2, 3, 4, 5] none _ rfl rfl (by rw [hu q1]; exact q2) rfl rfl (Nat.le_refl _) (Nat.le_refl _) dzX6_refreshEndings_33
  · refine zv_callV C (c_countEndings K r o b a u.1 u.2.1 bl ab n ver (rBeg bl n) u.2.2 (capB bs ver n cap) (nI (rIdl bl n)) ver ver hn hb hcb.1 hcb.2.1) (zw_V inX6_countEndings kX6_80 ⟨by show 1 + 1 ≤ 3; omega, by show 8 + (3 + 11) + 26 ≤ 68; omega⟩) [0, 1, 2, 3, 4, 5] 0 rfl rfl rfl rfl (fun _ => Nat.le_refl _) rfl rfl (by decide) dzX6_refreshEndings_30 (Nat.le_refl _) (Nat.le_refl _) rfl (fun _ _ => ?_)
    exact zr R (u.1, u.2.1, _) [0, 1, 2, 3, 4, 5] none _ rfl rfl ⟨_, rfl⟩ rfl rfl (Nat.le_refl _) (Nat.le_refl _) dzX6_refreshEndings_33
set_option maxHeartbeats 4000000 in
set_option maxRecDepth 100000 in
theorem c_total (K : zK) (r o b a g e : Nat) (bl ab : Nat → Nat) (n : Nat) (ver : Int32) (B E : Nat → Int64) (cap : Nat) (idl bs es : Int32) (hn : n ≤ 14) (hb : ∀ j, bl j < 2 ^ 14) (hp : pw2 cap) (hs : bs = ver → rbV bl n cap B idl) :
    zM (S := Nat × Nat × (Nat → Int64)) K yX6_total cX6_total 1 (some .long) (zqB 3 bs ver n cap 68) [.ref r] (wR K r o b a g e bl ab n ver B E cap idl bs es) (fun u => bs = ver → u.2.2 = E) (fun _ => some (.long (rBeg bl n (2 ^ n - 1)))) (fun u => wR K r o b a u.1 u.2.1 bl ab n ver (rBeg bl n) u.2.2 (capB bs ver n cap) (nI (rIdl bl n)) ver es) := by
  have hcb := capB_ok hp hn (fun q => (hs q).2.2)
  have hpos : 0 < 2 ^ n := Nat.two_pow_pos n
  refine zo (by decide) (Nat.le_of_ble_eq_true rfl) fun x C R _ => ?_
  refine zv_go C okX6_total [] 1 ?_
  refine zv_callV C (c_refreshB K r o b a g e bl ab n ver B E cap idl bs es hn hb hp hs) (zw_V inX6_refreshBeginnings kX6_29 ⟨by show 2 + 1 ≤ 3; omega, by show 8 + (1 + 11) + 48 ≤ 68; omega⟩) [0, 1, 2, 3, 4, 5] 0 rfl rfl rfl rfl (fun _ => Nat.le_refl _) rfl rfl (by decide) dzX6_total_1 (Nat.le_of_eq (Nat.zero_add _)) (Nat.le_of_eq (Nat.zero_add _)) rfl (fun u hu => ?_)
  refine zv_to C rfl rfl (ws' := wR K r o b a u.1 u.2.1 bl ab n ver (rBeg bl n) u.2.2 (capB bs ver n cap) (nI (rIdl bl n)) ver es) rfl ?_
  refine zv_wide C (ce' := capB bs ver n cap - cap) (sl' := 4 * (capB bs ver n cap - cap)) (Nat.le_of_eq (Nat.zero_add _)) (Nat.le_of_eq (Nat.zero_add _)) ?_
  refine zv_go C okX6_total [] 20 ?_
  refine ⟨rfl, rfl, ?_⟩
  refine zv_callV C (c_all K o b a bl ab n ver hn) (zw_V inX4_all kX6_32 ⟨by show 0 + 1 ≤ 3; omega, by show 8 + (1 + 11) + 0 ≤ 68; omega⟩) [1, 2, 3] 1 rfl rfl rfl rfl (fun _ => Nat.le_refl _) (rest := [.ref u.1]) rfl rfl (Nat.le_of_ble_eq_true rfl) dzX6_total_12 (Nat.le_refl _) (Nat.le_refl _) rfl (fun _ _ => ?_)
  refine zv_to C rfl rfl (ws' := wR K r o b a u.1 u.2.1 bl ab n ver (rBeg bl n) u.2.2 (capB bs ver n cap) (nI (rIdl bl n)) ver es) rfl ?_
  refine zv_go C okX6_total [] 20 ?_
  refine ⟨⟨rfl, rfl⟩, vp_in_nI (by omega) (by omega), ?_⟩
  exact zr R u [0, 1, 2, 3, 4, 5] (some (.long _)) _ (by rw [nI_clamp (by omega)]) rfl hu rfl rfl (Nat.le_refl _) (Nat.le_refl _) dzX6_total_16
set_option maxHeartbeats 4000000 in
set_option maxRecDepth 100000 in
theorem c_ideals (K : zK) (r o b a g e : Nat) (bl ab : Nat → Nat) (n : Nat) (ver : Int32) (B E : Nat → Int64) (cap : Nat) (idl bs es : Int32) (hn : n ≤ 14) (hb : ∀ j, bl j < 2 ^ 14) (hp : pw2 cap) (hs : bs = ver → rbV bl n cap B idl) :
    zM (S := Nat × Nat × (Nat → Int64)) K yX6_ideals cX6_ideals 1 (some .int) (zqB 3 bs ver n cap 68) [.ref r] (wR K r o b a g e bl ab n ver B E cap idl bs es) (fun u => bs = ver → u.2.2 = E) (fun _ => some (.int (nI (rIdl bl n)))) (fun u => wR K r o b a u.1 u.2.1 bl ab n ver (rBeg bl n) u.2.2 (capB bs ver n cap) (nI (rIdl bl n)) ver es) := by
  refine zo (by decide) (Nat.le_of_ble_eq_true rfl) fun x C R _ => ?_
  refine zv_go C okX6_ideals [] 1 ?_
  refine zv_callV C (c_refreshB K r o b a g e bl ab n ver B E cap idl bs es hn hb hp hs) (zw_V inX6_refreshBeginnings kX6_29 ⟨by show 2 + 1 ≤ 3; omega, by show 8 + (1 + 11) + 48 ≤ 68; omega⟩) [0, 1, 2, 3, 4, 5] 0 rfl rfl rfl rfl (fun _ => Nat.le_refl _) rfl rfl (by decide) dzX6_ideals_1 (Nat.le_of_eq (Nat.zero_add _)) (Nat.le_of_eq (Nat.zero_add _)) rfl (fun u hu => ?_)
  refine zv_to C rfl rfl (ws' := wR K r o b a u.1 u.2.1 bl ab n ver (rBeg bl n) u.2.2 (capB bs ver n cap) (nI (rIdl bl n)) ver es) rfl ?_
  refine zv_go C okX6_ideals [] 20 ?_
  refine ⟨rfl, ?_⟩
  exact zr R u [0, 1, 2, 3, 4, 5] (some (.int _)) _ rfl rfl hu rfl rfl (Nat.le_of_eq (Nat.zero_add _)) (Nat.le_of_eq (Nat.zero_add _)) dzX6_ideals_8
/-- in how many ways a row goes on with v -/
def rof (bl : Nat → Nat) (E : Nat → Int64) (p v : Nat) : Int64 := if ndf (bl v ||| 2 ^ v) p = 2 ^ v then E (p ||| 2 ^ v) else 0
set_option maxHeartbeats 4000000 in
set_option maxRecDepth 100000 in
theorem c_rowsOnFrom (K : zK) (r o b a g e : Nat) (bl ab : Nat → Nat) (n : Nat) (ver : Int32) (B E : Nat → Int64) (cap : Nat) (idl bs es : Int32) {p v : Nat} (hp : p < 2 ^ n) (hv : v < n) (hn : n ≤ 14) (hb : ∀ j, bl j < 2 ^ 14) (hcap : 2 ^ n ≤ cap) (hc : cap ≤ 16384) :
    zD K yX6_rowsOnFrom cX6_rowsOnFrom 3 (some .long) (zq 2 0 0 43) [.ref r, .int (nI p), .int (nI v)] (wR K r o b a g e bl ab n ver B E cap idl bs es) (some (.long (rof bl E p v))) (wR K r o b a g e bl ab n ver B E cap idl bs es) := by
  have htl : p ||| 2 ^ v < 2 ^ n := nb_lt_or hp (nb_lt_pow hv)
  refine zo (by decide) (Nat.le_of_ble_eq_true rfl) fun x C R _ => ?_
  refine zv_go C okX6_rowsOnFrom [] 4 ?_
  refine ⟨rfl, ?_⟩
  refine zv_callV C (c_canFollow K o b a bl ab n ver (s := p) (v := v) (by omega) (hb v)) (zw_V inX4_canFollow kX6_66 ⟨by decide, by decide⟩) [1, 2, 3] 1 rfl rfl rfl rfl (fun _ => Nat.le_refl _) rfl rfl (by decide) dzX6_rowsOnFrom_6 (by decide) (by decide) rfl (fun _ _ => ?_)
  refine zv_to C rfl rfl (ws' := wR K r o b a g e bl ab n ver B E cap idl bs es) rfl ?_
  refine zv_go C okX6_rowsOnFrom [] 20 ?_
  have etg : nI p ||| (1 : Int32) <<< (nI v &&& 31) = nI (p ||| 2 ^ v) := by rw [nb_1s v (by omega), nb_or]
  refine ⟨fun h => ?_, fun h => ⟨rfl, ⟨rfl, rfl⟩, ?_, ?_⟩⟩
  · rw [bI_0, decide_eq_false_iff_not] at h
    exact zr R () [0, 1, 2, 3, 4, 5] (some (.long 0)) _ (by unfold rof; rw [if_neg h]) rfl trivial rfl rfl (Nat.le_refl _) (Nat.le_refl _) dzX6_rowsOnFrom_26
  · show vp_in (nI p ||| (1 : Int32) <<< (nI v &&& 31)) cap
    rw [etg]
    exact vp_in_nI (by omega) (by omega)
  · rw [bI_1, decide_eq_true_eq] at h
    refine zr R () [0, 1, 2, 3, 4, 5] (some (.long _)) _ ?_ rfl trivial rfl rfl (Nat.le_refl _) (Nat.le_refl _) dzX6_rowsOnFrom_26
    show _ = some (Value.long (E (nI p ||| (1 : Int32) <<< (nI v &&& 31)).toNatClampNeg))
    rw [etg, nI_clamp (by omega)]
    unfold rof
    rw [if_pos h]
set_option maxHeartbeats 4000000 in
set_option maxRecDepth 100000 in
theorem c_rowsWithStep (K : zK) (r o b a g e : Nat) (bl ab : Nat → Nat) (n : Nat) (ver : Int32) (B E : Nat → Int64) (cap : Nat) (idl bs es : Int32) {p v : Nat} (hp : p < 2 ^ n) (hv : v < n) (hn : n ≤ 14) (hb : ∀ j, bl j < 2 ^ 14) (hcap : 2 ^ n ≤ cap) (hc : cap ≤ 16384) :
    zD K yX6_rowsWithStep cX6_rowsWithStep 3 (some .long) (zq 3 0 0 65) [.ref r, .int (nI p), .int (nI v)] (wR K r o b a g e bl ab n ver B E cap idl bs es) (some (.long (B p * rof bl E p v))) (wR K r o b a g e bl ab n ver B E cap idl bs es) := by
  have ec : (nI p).toNatClampNeg = p := nI_clamp (by omega)
  refine zo (by decide) (Nat.le_of_ble_eq_true rfl) fun x C R _ => ?_
  refine zv_go C okX6_rowsWithStep [] 20 ?_
  refine ⟨rfl, ⟨rfl, rfl⟩, vp_in_nI (by omega) (by omega), ?_⟩
  refine zv_to C rfl (st' := [.int (nI v), .int (nI p), .ref r, .long (B p)]) (by show [_, _, _, Value.long (B (nI p).toNatClampNeg)] = _; rw [ec] <;> rfl) rfl ?_
  refine zv_callV C (c_rowsOnFrom K r o b a g e bl ab n ver B E cap idl bs es hp hv hn hb hcap hc) (zw_V inX6_rowsOnFrom kX6_54 ⟨by decide, by decide⟩) [0, 1, 2, 3, 4, 5] 0 rfl rfl rfl rfl (fun _ => Nat.le_refl _) (rest := [.long (B p)]) rfl rfl (Nat.le_of_ble_eq_true rfl) dzX6_rowsWithStep_9 (by decide) (by decide) rfl (fun _ _ => ?_)
  refine zv_to C rfl rfl (ws' := wR K r o b a g e bl ab n ver B E cap idl bs es) rfl ?_
  refine zv_go C okX6_rowsWithStep [] 20 ?_
  exact zr R () [0, 1, 2, 3, 4, 5] (some (.long _)) _ rfl rfl trivial rfl rfl (Nat.le_refl _) (Nat.le_refl _) dzX6_rowsWithStep_13
end
section
/-! ROW TABLE: rowsWithFirst, rowsWithPlace -/
def rwf (bl : Nat → Nat) (B E : Nat → Int64) (i j : Nat) : Nat → Int64
  | 0 => 0
  | k + 1 => if k.testBit i = true ∧ ¬ B k = 0 then rwf bl B E i j k + B k * rof bl E k j else rwf bl B E i j k
set_option maxHeartbeats 4000000 in
set_option maxRecDepth 100000 in
theorem c_rowsWithFirst (K : zK) (r o b a g e : Nat) (bl ab : Nat → Nat) (n : Nat) (ver : Int32) (B E : Nat → Int64) (cap : Nat) (idl bs es : Int32) {i j : Nat} (hi : i < n) (hj : j < n) (hn : n ≤ 14) (hb : ∀ j, bl j < 2 ^ 14) (hp : pw2 cap) (hs : bs = ver → rbV bl n cap B idl) (he : es = ver → bs = ver ∧ reV bl n E) :
    zM (S := Nat × Nat × (Nat → Int64)) K yX6_rowsWithFirst cX6_rowsWithFirst 7 (some .long) (zqB 4 bs ver n cap 88) [.ref r, .int (nI i), .int (nI j)] (wR K r o b a g e bl ab n ver B E cap idl bs es) (fun u => reV bl n u.2.2) (fun u => some (.long (rwf bl (rBeg bl n) u.2.2 i j (2 ^ n)))) (fun u => wR K r o b a u.1 u.2.1 bl ab n ver (rBeg bl n) u.2.2 (capB bs ver n cap) (nI (rIdl bl n)) ver ver) := by
  have hcb := capB_ok hp hn (fun q => (hs q).2.2)
  have hpos : 0 < 2 ^ n := Nat.two_pow_pos n
  have hp14 := pow_le14 hn
  refine zo (by decide) (Nat.le_of_ble_eq_true rfl) fun x C R _ => ?_
  refine zv_go C okX6_rowsWithFirst [] 1 ?_
  refine zv_callV C (c_refreshE K r o b a g e bl ab n ver B E cap idl bs es hn hb hp hs he) (zw_V inX6_refreshEndings kX6_41 ⟨by show 3 + 1 ≤ 4; omega, by show 8 + (1 + 11) + 68 ≤ 88; omega⟩) [0, 1, 2, 3, 4, 5] 0 rfl rfl rfl rfl (fun _ => Nat.le_refl _) rfl rfl (by decide) dzX6_rowsWithFirst_1 (Nat.le_of_eq (Nat.zero_add _)) (Nat.le_of_eq (Nat.zero_add _)) rfl (fun u hu => ?_)
  refine zv_to C rfl rfl (ws' := wR K r o b a u.1 u.2.1 bl ab n ver (rBeg bl n) u.2.2 (capB bs ver n cap) (nI (rIdl bl n)) ver ver) rfl ?_
  refine zv_wide C (ce' := capB bs ver n cap - cap) (sl' := 4 * (capB bs ver n cap - cap)) (Nat.le_of_eq (Nat.zero_add _)) (Nat.le_of_eq (Nat.zero_add _)) ?_
  refine zv_go C okX6_rowsWithFirst [] 2 ?_
  refine ⟨rfl, ?_⟩
  refine zv_callV C (c_all K o b a bl ab n ver hn) (zw_V inX4_all kX6_32 ⟨by show 0 + 1 ≤ 4; omega, by show 8 + (1 + 11) + 0 ≤ 88; omega⟩) [1, 2, 3] 1 rfl rfl rfl rfl (fun _ => Nat.le_refl _) rfl rfl (by decide) dzX6_rowsWithFirst_8 (Nat.le_refl _) (Nat.le_refl _) rfl (fun _ _ => ?_)
  refine zv_to C rfl rfl (ws' := wR K r o b a u.1 u.2.1 bl ab n ver (rBeg bl n) u.2.2 (capB bs ver n cap) (nI (rIdl bl n)) ver ver) rfl ?_
  have loop : ∀ mm k, k + mm = 2 ^ n → zv_V x (gz K (zqB 4 bs ver n cap 88) 7 cX6_rowsWithFirst yX6_rowsWithFirst.cls) 18 [(0, .ref r), (1, .int (nI i)), (2, .int (nI j)), (3, .int (nI (2 ^ n - 1))), (4, .long (rwf bl (rBeg bl n) u.2.2 i j k)), (6, .int (nI k))] [] (wR K r o b a u.1 u.2.1 bl ab n ver (rBeg bl n) u.2.2 (capB bs ver n cap) (nI (rIdl bl n)) ver ver) (capB bs ver n cap - cap) (4 * (capB bs ver n cap - cap)) := by
    intro mm
    induction mm with
    | zero =>
      intro k hk
      have e1 : k = 2 ^ n := by omega
      subst e1
      refine zv_go C okX6_rowsWithFirst [] 20 ?_
      refine ⟨fun _ => ?_, fun h => absurd (nI_lt (by omega) (by omega)) h⟩
      exact zr R u [0, 1, 2, 3, 4, 5] (some (.long _)) _ rfl rfl hu rfl rfl (Nat.le_refl _) (Nat.le_refl _) dzX6_rowsWithFirst_65
    | succ mm ih =>
      intro k hk
      have ec : (nI k).toNatClampNeg = k := nI_clamp (by omega)
      refine zv_go C okX6_rowsWithFirst [18] 30 ?_
      refine ⟨fun h => absurd h (nI_nlt (by omega) (by omega)), fun _ => ⟨fun h => ?_, fun h => ⟨rfl, ⟨rfl, rfl⟩, vp_in_nI (by omega) (by omega), fun h2 => ?_, fun h2 => ?_⟩⟩⟩
      · rw [nb_t0 (by omega) (by omega)] at h
        refine zv_to C (lv' := [(0, .ref r), (1, .int (nI i)), (2, .int (nI j)), (3, .int (nI (2 ^ n - 1))), (4, .long (rwf bl (rBeg bl n) u.2.2 i j (k + 1))), (6, .int (nI (k + 1)))]) ?_ rfl rfl (ih (k + 1) (by omega))
        rw [rwf, if_neg (fun q => by rw [q.1] at h; cases h), ← nI_1]
        rfl
      · have h2 : lg_cmp (rBeg bl n (nI k).toNatClampNeg) 0 = 0 := h2
        rw [lg_c0, ec] at h2
        refine zv_to C (lv' := [(0, .ref r), (1, .int (nI i)), (2, .int (nI j)), (3, .int (nI (2 ^ n - 1))), (4, .long (rwf bl (rBeg bl n) u.2.2 i j (k + 1))), (6, .int (nI (k + 1)))]) ?_ rfl rfl (ih (k + 1) (by omega))
        rw [rwf, if_neg (fun q => q.2 h2), ← nI_1]
        rfl
      · rw [nb_t1 (by omega) (by omega)] at h
        have h2 : ¬ lg_cmp (rBeg bl n (nI k).toNatClampNeg) 0 = 0 := h2
        rw [lg_c0, ec] at h2
        refine zv_callV C (c_rowsWithStep K r o b a u.1 u.2.1 bl ab n ver (rBeg bl n) u.2.2 (capB bs ver n cap) (nI (rIdl bl n)) ver ver (p := k) (v := j) (by omega) hj hn hb hcb.1 hcb.2.1) (zw_V inX6_rowsWithStep kX6_44 ⟨by show 3 + 1 ≤ 4; omega, by show 8 + (3 + 11) + 65 ≤ 88; omega⟩) [0, 1, 2, 3, 4, 5] 0 rfl rfl rfl rfl (fun _ => Nat.le_refl _) (rest := [.long (rwf bl (rBeg bl n) u.2.2 i j k)]) rfl rfl (Nat.le_of_ble_eq_true rfl) dzX6_rowsWithFirst_51 (Nat.le_refl _) (Nat.le_refl _) rfl (fun _ _ => ?_)
        refine zv_to C rfl rfl (ws' := wR K r o b a u.1 u.2.1 bl ab n ver (rBeg bl n) u.2.2 (capB bs ver n cap) (nI (rIdl bl n)) ver ver) rfl ?_
        refine zv_go C okX6_rowsWithFirst [18] 30 ?_
        refine zv_to C (lv' := [(0, .ref r), (1, .int (nI i)), (2, .int (nI j)), (3, .int (nI (2 ^ n - 1))), (4, .long (rwf bl (rBeg bl n) u.2.2 i j (k + 1))), (6, .int (nI (k + 1)))]) ?_ rfl rfl (ih (k + 1) (by omega))
        rw [rwf, if_pos ⟨h, h2⟩, ← nI_1]
        rfl
  refine zv_go C okX6_rowsWithFirst [18] 20 ?_
  exact loop (2 ^ n) 0 (by omega)
def rwp (bl : Nat → Nat) (B E : Nat → Int64) (v pl : Nat) : Nat → Int64
  | 0 => 0
  | k + 1 => if ¬ B k = 0 ∧ npc 14 k = pl then rwp bl B E v pl k + B k * rof bl E k v else rwp bl B E v pl k
set_option maxHeartbeats 4000000 in
set_option maxRecDepth 100000 in
theorem c_rowsWithPlace (K : zK) (r o b a g e : Nat) (bl ab : Nat → Nat) (n : Nat) (ver : Int32) (B E : Nat → Int64) (cap : Nat) (idl bs es : Int32) {v pl : Nat} (hv : v < n) (hpl : pl < n) (hn : n ≤ 14) (hb : ∀ j, bl j < 2 ^ 14) (hp : pw2 cap) (hs : bs = ver → rbV bl n cap B idl) (he : es = ver → bs = ver ∧ reV bl n E) :
    zM (S := Nat × Nat × (Nat → Int64)) K yX6_rowsWithPlace cX6_rowsWithPlace 7 (some .long) (zqB 4 bs ver n cap 88) [.ref r, .int (nI v), .int (nI pl)] (wR K r o b a g e bl ab n ver B E cap idl bs es) (fun u => reV bl n u.2.2) (fun u => some (.long (rwp bl (rBeg bl n) u.2.2 v pl (2 ^ n)))) (fun u => wR K r o b a u.1 u.2.1 bl ab n ver (rBeg bl n) u.2.2 (capB bs ver n cap) (nI (rIdl bl n)) ver ver) := by
  have hcb := capB_ok hp hn (fun q => (hs q).2.2)
  have hpos : 0 < 2 ^ n := Nat.two_pow_pos n
  have hp14 := pow_le14 hn
  refine zo (by decide) (Nat.le_of_ble_eq_true rfl) fun x C R _ => ?_
  refine zv_go C okX6_rowsWithPlace [] 1 ?_
  refine zv_callV C (c_refreshE K r o b a g e bl ab n ver B E cap idl bs es hn hb hp hs he) (zw_V inX6_refreshEndings kX6_41 ⟨by show 3 + 1 ≤ 4; omega, by show 8 + (1 + 11) + 68 ≤ 88; omega⟩) [0, 1, 2, 3, 4, 5] 0 rfl rfl rfl rfl (fun _ => Nat.le_refl _) rfl rfl (by decide) dzX6_rowsWithPlace_1 (Nat.le_of_eq (Nat.zero_add _)) (Nat.le_of_eq (Nat.zero_add _)) rfl (fun u hu => ?_)
  refine zv_to C rfl rfl (ws' := wR K r o b a u.1 u.2.1 bl ab n ver (rBeg bl n) u.2.2 (capB bs ver n cap) (nI (rIdl bl n)) ver ver) rfl ?_
  refine zv_wide C (ce' := capB bs ver n cap - cap) (sl' := 4 * (capB bs ver n cap - cap)) (Nat.le_of_eq (Nat.zero_add _)) (Nat.le_of_eq (Nat.zero_add _)) ?_
  refine zv_go C okX6_rowsWithPlace [] 2 ?_
  refine ⟨rfl, ?_⟩
  refine zv_callV C (c_all K o b a bl ab n ver hn) (zw_V inX4_all kX6_32 ⟨by show 0 + 1 ≤ 4; omega, by show 8 + (1 + 11) + 0 ≤ 88; omega⟩) [1, 2, 3] 1 rfl rfl rfl rfl (fun _ => Nat.le_refl _) rfl rfl (by decide) dzX6_rowsWithPlace_8 (Nat.le_refl _) (Nat.le_refl _) rfl (fun _ _ => ?_)
  refine zv_to C rfl rfl (ws' := wR K r o b a u.1 u.2.1 bl ab n ver (rBeg bl n) u.2.2 (capB bs ver n cap) (nI (rIdl bl n)) ver ver) rfl ?_
  have loop : ∀ mm k, k + mm = 2 ^ n → zv_V x (gz K (zqB 4 bs ver n cap 88) 7 cX6_rowsWithPlace yX6_rowsWithPlace.cls) 18 [(0, .ref r), (1, .int (nI v)), (2, .int (nI pl)), (3, .int (nI (2 ^ n - 1))), (4, .long (rwp bl (rBeg bl n) u.2.2 v pl k)), (6, .int (nI k))] [] (wR K r o b a u.1 u.2.1 bl ab n ver (rBeg bl n) u.2.2 (capB bs ver n cap) (nI (rIdl bl n)) ver ver) (capB bs ver n cap - cap) (4 * (capB bs ver n cap - cap)) := by
    intro mm
    induction mm with
    | zero =>
      intro k hk
      have e1 : k = 2 ^ n := by omega
      subst e1
      refine zv_go C okX6_rowsWithPlace [] 20 ?_
      refine ⟨fun _ => ?_, fun h => absurd (nI_lt (by omega) (by omega)) h⟩
      exact zr R u [0, 1, 2, 3, 4, 5] (some (.long _)) _ rfl rfl hu rfl rfl (Nat.le_refl _) (Nat.le_refl _) dzX6_rowsWithPlace_65
    | succ mm ih =>
      intro k hk
      have ec : (nI k).toNatClampNeg = k := nI_clamp (by omega)
      have hk14 : k < 2 ^ 14 := by omega
      have hpc := npc_le 14 k
      refine zv_go C okX6_rowsWithPlace [18] 30 ?_
      refine ⟨fun h => absurd h (nI_nlt (by omega) (by omega)), fun _ => ⟨rfl, ⟨rfl, rfl⟩, vp_in_nI (by omega) (by omega), fun h => ?_, fun h => ?_⟩⟩
      · have h : lg_cmp (rBeg bl n (nI k).toNatClampNeg) 0 = 0 := h
        rw [lg_c0, ec] at h
        refine zv_to C (lv' := [(0, .ref r), (1, .int (nI v)), (2, .int (nI pl)), (3, .int (nI (2 ^ n - 1))), (4, .long (rwp bl (rBeg bl n) u.2.2 v pl (k + 1))), (6, .int (nI (k + 1)))]) ?_ rfl rfl (ih (k + 1) (by omega))
        rw [rwp, if_neg (fun q => q.1 h), ← nI_1]
        rfl
      · have h : ¬ lg_cmp (rBeg bl n (nI k).toNatClampNeg) 0 = 0 := h
        rw [lg_c0, ec] at h
        refine zv_callS C (c_bitCount K hk14) (zw_S inJ6_bitCount_0f7a4 kX6_48 ⟨by show 0 + 1 ≤ 4; omega, by show 8 + (1 + 11) + 0 ≤ 88; omega⟩) [] rfl rfl (fun _ => Nat.le_refl _) rfl rfl (by decide) dzX6_rowsWithPlace_38 (Nat.le_refl _) (Nat.le_refl _) rfl (fun _ _ => ?_)
        refine zv_to C rfl rfl (ws' := wR K r o b a u.1 u.2.1 bl ab n ver (rBeg bl n) u.2.2 (capB bs ver n cap) (nI (rIdl bl n)) ver ver) rfl ?_
        refine zv_go C okX6_rowsWithPlace [18] 30 ?_
        refine ⟨fun h2 => ?_, fun h2 => ?_⟩
        · rw [nb_inj (by omega) (by omega)] at h2
          refine zv_to C (lv' := [(0, .ref r), (1, .int (nI v)), (2, .int (nI pl)), (3, .int (nI (2 ^ n - 1))), (4, .long (rwp bl (rBeg bl n) u.2.2 v pl (k + 1))), (6, .int (nI (k + 1)))]) ?_ rfl rfl (ih (k + 1) (by omega))
          rw [rwp, if_neg (fun q => h2 q.2), ← nI_1]
          rfl
        · rw [nb_inj (by omega) (by omega)] at h2
          refine zv_callV C (c_rowsWithStep K r o b a u.1 u.2.1 bl ab n ver (rBeg bl n) u.2.2 (capB bs ver n cap) (nI (rIdl bl n)) ver ver (p := k) (v := v) (by omega) hv hn hb hcb.1 hcb.2.1) (zw_V inX6_rowsWithStep kX6_44 ⟨by show 3 + 1 ≤ 4; omega, by show 8 + (3 + 11) + 65 ≤ 88; omega⟩) [0, 1, 2, 3, 4, 5] 0 rfl rfl rfl rfl (fun _ => Nat.le_refl _) (rest := [.long (rwp bl (rBeg bl n) u.2.2 v pl k)]) rfl rfl (Nat.le_of_ble_eq_true rfl) dzX6_rowsWithPlace_51 (Nat.le_refl _) (Nat.le_refl _) rfl (fun _ _ => ?_)
          refine zv_to C rfl rfl (ws' := wR K r o b a u.1 u.2.1 bl ab n ver (rBeg bl n) u.2.2 (capB bs ver n cap) (nI (rIdl bl n)) ver ver) rfl ?_
          refine zv_go C okX6_rowsWithPlace [18] 30 ?_
          refine zv_to C (lv' := [(0, .ref r), (1, .int (nI v)), (2, .int (nI pl)), (3, .int (nI (2 ^ n - 1))), (4, .long (rwp bl (rBeg bl n) u.2.2 v pl (k + 1))), (6, .int (nI (k + 1)))]) ?_ rfl rfl (ih (k + 1) (by omega))
          rw [rwp, if_pos ⟨h, h2⟩, ← nI_1]
          rfl
  refine zv_go C okX6_rowsWithPlace [18] 20 ?_
  exact loop (2 ^ n) 0 (by omega)
end
section
/-! ROW TABLE: rowNumbered, numberOf -/
def rnV (bl : Nat → Nat) (n : Nat) (E : Nat → Int64) (p : Nat) : Nat → Int64 → Nat × Int64
  | 0, l => (n - 1, l)
  | m + 1, l => if rof bl E p (n - 1 - (m + 1)) ≤ l then rnV bl n E p m (l - rof bl E p (n - 1 - (m + 1))) else (n - 1 - (m + 1), l)
theorem rnV_lt {bl : Nat → Nat} {n : Nat} {E : Nat → Int64} {p : Nat} (h1 : 1 ≤ n) : ∀ m l, (rnV bl n E p m l).1 < n
  | 0, l => by show n - 1 < n; omega
  | m + 1, l => by
    unfold rnV
    split
    · exact rnV_lt h1 m _
    · show n - 1 - (m + 1) < n; omega
/-- the run over the places that are left -/
def rnF (bl : Nat → Nat) (n : Nat) (E : Nat → Int64) : Nat → Int64 → Int64 → Nat → Int64
  | 0, _, rw, _ => rw
  | m + 1, l, rw, p => rnF bl n E m (rnV bl n E p (n - 1) l).2 (rw ||| ((nI (rnV bl n E p (n - 1) l).1).toInt64 <<< ((nI (4 * (n - (m + 1)))).toInt64 &&& 63))) (p ||| 2 ^ (rnV bl n E p (n - 1) l).1)
def rnR (bl : Nat → Nat) (n : Nat) (E : Nat → Int64) (k : Int64) : Int64 := if k < 0 ∨ E 0 ≤ k then -1 else rnF bl n E n k 0 0
set_option maxHeartbeats 4000000 in
set_option maxRecDepth 100000 in
theorem c_rowNumbered (K : zK) (r o b a g e : Nat) (bl ab : Nat → Nat) (n : Nat) (ver : Int32) (B E : Nat → Int64) (cap : Nat) (idl bs es : Int32) (k : Int64) (h1 : 1 ≤ n) (hn : n ≤ 14) (hb : ∀ j, bl j < 2 ^ 14) (hp : pw2 cap) (hs : bs = ver → rbV bl n cap B idl) (he : es = ver → bs = ver ∧ reV bl n E) :
    zM (S := Nat × Nat × (Nat → Int64)) K yX6_rowNumbered cX6_rowNumbered 10 (some .long) (zqB 4 bs ver n cap 88) [.ref r, .long k] (wR K r o b a g e bl ab n ver B E cap idl bs es) (fun u => reV bl n u.2.2) (fun u => some (.long (rnR bl n u.2.2 k))) (fun u => wR K r o b a u.1 u.2.1 bl ab n ver (rBeg bl n) u.2.2 (capB bs ver n cap) (nI (rIdl bl n)) ver ver) := by
  have hcb := capB_ok hp hn (fun q => (hs q).2.2)
  have hpos : 0 < 2 ^ n := Nat.two_pow_pos n
  have hp14 := pow_le14 hn
  have en1 : nI n - 1 = nI (n - 1) := by
    have e1 : (1 : Int32) = nI 1 := rfl
    rw [e1, pk_sub h1]
  refine zo (by decide) (Nat.le_of_ble_eq_true rfl) fun x C R _ => ?_
  refine zv_go C okX6_rowNumbered [] 1 ?_
  refine zv_callV C (c_refreshE K r o b a g e bl ab n ver B E cap idl bs es hn hb hp hs he) (zw_V inX6_refreshEndings kX6_41 ⟨by show 3 + 1 ≤ 4; omega, by show 8 + (1 + 11) + 68 ≤ 88; omega⟩) [0, 1, 2, 3, 4, 5] 0 rfl rfl rfl rfl (fun _ => Nat.le_refl _) rfl rfl (by decide) dzX6_rowNumbered_1 (Nat.le_of_eq (Nat.zero_add _)) (Nat.le_of_eq (Nat.zero_add _)) rfl (fun u hu => ?_)
  refine zv_to C rfl rfl (ws' := wR K r o b a u.1 u.2.1 bl ab n ver (rBeg bl n) u.2.2 (capB bs ver n cap) (nI (rIdl bl n)) ver ver) rfl ?_
  refine zv_wide C (ce' := capB bs ver n cap - cap) (sl' := 4 * (capB bs ver n cap - cap)) (Nat.le_of_eq (Nat.zero_add _)) (Nat.le_of_eq (Nat.zero_add _)) ?_
  -- the inner run, with what comes behind it
  have inner : ∀ (i p : Nat) (rw' : Int64), i < n → p < 2 ^ n → (∀ v l, (v < n) → zv_V x (gz K (zqB 4 bs ver n cap 88) 10 cX6_rowNumbered yX6_rowNumbered.cls) 95 [(0, .ref r), (1, .long k), (3, .long l), (5, .long rw'), (7, .int (nI p)), (8, .int (nI i)), (9, .int (nI v))] [] (wR K r o b a u.1 u.2.1 bl ab n ver (rBeg bl n) u.2.2 (capB bs ver n cap) (nI (rIdl bl n)) ver ver) (capB bs ver n cap - cap) (4 * (capB bs ver n cap - cap)) ∨ True) → ∀ m l (res : Nat × Int64), m ≤ n - 1 → rnV bl n u.2.2 p m l = res → zv_V x (gz K (zqB 4 bs ver n cap 88) 10 cX6_rowNumbered yX6_rowNumbered.cls) 95 [(0, .ref r), (1, .long k), (3, .long res.2), (5, .long rw'), (7, .int (nI p)), (8, .int (nI i)), (9, .int (nI res.1))] [] (wR K r o b a u.1 u.2.1 bl ab n ver (rBeg bl n) u.2.2 (capB bs ver n cap) (nI (rIdl bl n)) ver ver) (capB bs ver n cap - cap) (4 * (capB bs ver n cap - cap)) → zv_V x (gz K (zqB 4 bs ver n cap 88) 10 cX6_rowNumbered yX6_rowNumbered.cls) 51 [(0, .ref r), (1, .long k), (3, .long l), (5, .long rw'), (7, .int (nI p)), (8, .int (nI i)), (9, .int (nI (n - 1 - m)))] [] (wR K r o b a u.1 u.2.1 bl ab n ver (rBeg bl n) u.2.2 (capB bs ver n cap) (nI (rIdl bl n)) ver ver) (capB bs ver n cap - cap) (4 * (capB bs ver n cap - cap)) := by
    intro i p rw' hi hpp _ m
    induction m with
    | zero =>
      intro l res _ hres hk
      subst hres
      refine zv_go C okX6_rowNumbered [95] 20 ?_
      refine ⟨rfl, rfl, fun _ => ?_, fun h => ?_⟩
      · exact hk
      · have h : ¬ nI n - 1 ≤ nI (n - 1 - 0) := h
        rw [en1] at h
        exact absurd (nI_le (by omega) (by omega)) h
    | succ m ih =>
      intro l res hm hres hk
      have enx : nI (n - 1 - (m + 1)) + 1 = nI (n - 1 - m) := by rw [nI_1]; congr 1; omega
      have hvlt : n - 1 - (m + 1) < n := by omega
      refine zv_go C okX6_rowNumbered [95] 20 ?_
      refine ⟨rfl, rfl, fun h => ?_, fun _ => ?_⟩
      · have h : nI n - 1 ≤ nI (n - 1 - (m + 1)) := h
        rw [en1] at h
        exact absurd h (nI_ge (by omega) (by omega))
      refine zv_callV C (c_rowsOnFrom K r o b a u.1 u.2.1 bl ab n ver (rBeg bl n) u.2.2 (capB bs ver n cap) (nI (rIdl bl n)) ver ver (p := p) (v := n - 1 - (m + 1)) hpp hvlt hn hb hcb.1 hcb.2.1) (zw_V inX6_rowsOnFrom kX6_54 ⟨by show 2 + 1 ≤ 4; omega, by show 8 + (3 + 11) + 43 ≤ 88; omega⟩) [0, 1, 2, 3, 4, 5] 0 rfl rfl rfl rfl (fun _ => Nat.le_refl _) (rest := [.long l]) rfl rfl (Nat.le_of_ble_eq_true rfl) dzX6_rowNumbered_71 (Nat.le_refl _) (Nat.le_refl _) rfl (fun _ _ => ?_)
      refine zv_to C rfl rfl (ws' := wR K r o b a u.1 u.2.1 bl ab n ver (rBeg bl n) u.2.2 (capB bs ver n cap) (nI (rIdl bl n)) ver ver) rfl ?_
      refine zv_go C okX6_rowNumbered [95] 20 ?_
      refine ⟨fun h => ?_, fun h => ?_⟩
      · rw [lg_cmp_lt] at h
        rw [rnV, if_neg (Int64.not_le.mpr h)] at hres
        subst hres
        exact hk
      · rw [lg_cmp_lt] at h
        rw [rnV, if_pos (Int64.not_lt.mp h)] at hres
        refine zv_callV C (c_rowsOnFrom K r o b a u.1 u.2.1 bl ab n ver (rBeg bl n) u.2.2 (capB bs ver n cap) (nI (rIdl bl n)) ver ver (p := p) (v := n - 1 - (m + 1)) hpp hvlt hn hb hcb.1 hcb.2.1) (zw_V inX6_rowsOnFrom kX6_54 ⟨by show 2 + 1 ≤ 4; omega, by show 8 + (3 + 11) + 43 ≤ 88; omega⟩) [0, 1, 2, 3, 4, 5] 0 rfl rfl rfl rfl (fun _ => Nat.le_refl _) (rest := [.long l]) rfl rfl (Nat.le_of_ble_eq_true rfl) dzX6_rowNumbered_84 (Nat.le_refl _) (Nat.le_refl _) rfl (fun _ _ => ?_)
        refine zv_to C rfl rfl (ws' := wR K r o b a u.1 u.2.1 bl ab n ver (rBeg bl n) u.2.2 (capB bs ver n cap) (nI (rIdl bl n)) ver ver) rfl ?_
        refine zv_go C okX6_rowNumbered [51] 20 ?_
        exact zv_to C (lv' := [(0, .ref r), (1, .long k), (3, .long (l - rof bl u.2.2 p (n - 1 - (m + 1)))), (5, .long rw'), (7, .int (nI p)), (8, .int (nI i)), (9, .int (nI (n - 1 - m)))]) (by rw [← enx] <;> rfl) rfl rfl (ih _ res (by omega) hres hk)
  have loop : ∀ m (l rw' : Int64) (p : Nat) (lv2 : zv_L), m ≤ n → p < 2 ^ n → ¬ (k < 0 ∨ u.2.2 0 ≤ k) → rnF bl n u.2.2 m l rw' p = rnF bl n u.2.2 n k 0 0 → (lv2 = [] ∨ ∃ z, lv2 = [(9, .int z)]) → zv_V x (gz K (zqB 4 bs ver n cap 88) 10 cX6_rowNumbered yX6_rowNumbered.cls) 36 ([(0, .ref r), (1, .long k), (3, .long l), (5, .long rw'), (7, .int (nI p)), (8, .int (nI (n - m)))] ++ lv2) [] (wR K r o b a u.1 u.2.1 bl ab n ver (rBeg bl n) u.2.2 (capB bs ver n cap) (nI (rIdl bl n)) ver ver) (capB bs ver n cap - cap) (4 * (capB bs ver n cap - cap)) := by
    intro m
    induction m with
    | zero =>
      intro l rw' p lv2 _ hpp hko hf hl2
      refine zv_drop C [0, 1, 2, 3, 4, 5] (lv' := [(0, .ref r), (1, .long k), (3, .long l), (5, .long rw'), (7, .int (nI p)), (8, .int (nI (n - 0)))]) (by rcases hl2 with rfl | ⟨z, rfl⟩ <;> rfl) ?_
      refine zv_go C okX6_rowNumbered [] 20 ?_
      refine ⟨rfl, rfl, fun _ => ?_, fun h => absurd (nI_le (by omega) (by omega)) h⟩
      exact zr R u [0, 1, 2, 3, 4, 5] (some (.long _)) _ (by unfold rnR; rw [if_neg hko, ← hf] <;> rfl) rfl hu rfl rfl (Nat.le_refl _) (Nat.le_refl _) dzX6_rowNumbered_125
    | succ m ih =>
      intro l rw' p lv2 hm hpp hko hf hl2
      have enx : nI (n - (m + 1)) + 1 = nI (n - m) := by rw [nI_1]; congr 1; omega
      refine zv_drop C [0, 1, 2, 3, 4, 5] (lv' := [(0, .ref r), (1, .long k), (3, .long l), (5, .long rw'), (7, .int (nI p)), (8, .int (nI (n - (m + 1))))]) (by rcases hl2 with rfl | ⟨z, rfl⟩ <;> rfl) ?_
      refine zv_go C okX6_rowNumbered [51] 20 ?_
      refine ⟨rfl, rfl, fun h => absurd h (nI_ge (by omega) (by omega)), fun _ => ?_⟩
      have hv := rnV_lt (bl := bl) (E := u.2.2) (p := p) h1 (n - 1) l
      refine zv_to C (lv' := [(0, .ref r), (1, .long k), (3, .long l), (5, .long rw'), (7, .int (nI p)), (8, .int (nI (n - (m + 1)))), (9, .int (nI (n - 1 - (n - 1))))]) (by rw [Nat.sub_self] <;> rfl) rfl rfl (inner (n - (m + 1)) p rw' (by omega) hpp (fun _ _ _ => Or.inr trivial) (n - 1) l _ (Nat.le_refl _) rfl ?_)
      rw [rnF] at hf
      generalize hres : rnV bl n u.2.2 p (n - 1) l = res at hf hv ⊢
      refine zv_go C okX6_rowNumbered [36] 30 ?_
      refine zv_to C (lv' := [(0, .ref r), (1, .long k), (3, .long res.2), (5, .long (rw' ||| ((nI res.1).toInt64 <<< ((nI (4 * (n - (m + 1)))).toInt64 &&& 63)))), (7, .int (nI (p ||| 2 ^ res.1))), (8, .int (nI (n - m))), (9, .int (nI res.1))]) ?_ rfl rfl (ih res.2 _ _ [(9, .int (nI res.1))] (by omega) (nb_lt_or hpp (nb_lt_pow hv)) hko hf (Or.inr ⟨_, rfl⟩))
      rw [← enx, ← nb_or, ← nb_1s res.1 (by omega), ← pk_mul]
      rfl
  refine zv_go C okX6_rowNumbered [36] 30 ?_
  refine ⟨fun h => ?_, fun h => ⟨rfl, ⟨rfl, rfl⟩, vp_in_nI (n := 0) (by omega) (by omega), fun h2 => ?_, fun h2 => ?_⟩⟩
  · rw [lg_cmp_lt] at h
    exact zr R u [0, 1, 2, 3, 4, 5] (some (.long (-1))) _ (by unfold rnR; rw [if_pos (Or.inl h)]) rfl hu rfl rfl (Nat.le_refl _) (Nat.le_refl _) dzX6_rowNumbered_24
  · rw [lg_cmp_lt] at h h2
    have h2 : k < u.2.2 0 := h2
    refine zv_to C (lv' := [(0, .ref r), (1, .long k), (3, .long k), (5, .long 0), (7, .int (nI 0)), (8, .int (nI (n - n)))]) (by rw [Nat.sub_self] <;> rfl) rfl rfl (loop n k 0 0 [] (Nat.le_refl _) hpos (fun q => q.elim h (fun z => absurd h2 (Int64.not_lt.mpr z))) rfl (Or.inl rfl))
  · rw [lg_cmp_lt] at h2
    have h2 : ¬ k < u.2.2 0 := h2
    exact zr R u [0, 1, 2, 3, 4, 5] (some (.long (-1))) _ (by unfold rnR; rw [if_pos (Or.inr (Int64.not_lt.mp h2))]) rfl hu rfl rfl (Nat.le_refl _) (Nat.le_refl _) dzX6_rowNumbered_24
/-- the thing that a told row has at place i -/
def dgI (row : Int64) (i : Nat) : Int32 := (row.toUInt64 >>> ((nI (4 * i)).toInt64.toUInt64 &&& Int64.toUInt64 63)).toInt64.toInt32 &&& 15
def dgt (row : Int64) (i : Nat) : Nat := (dgI row i).toNatClampNeg
theorem dgt_ok (row : Int64) (i : Nat) : dgI row i = nI (dgt row i) ∧ dgt row i < 16 := by
  obtain ⟨j, hj, e⟩ := pk_andE (row.toUInt64 >>> ((nI (4 * i)).toInt64.toUInt64 &&& Int64.toUInt64 63)).toInt64.toInt32 (m := 15) 4 (by decide)
  have e : dgI row i = nI j := e
  have e2 : dgt row i = j := by unfold dgt; rw [e]; exact nI_clamp (by omega)
  exact ⟨by rw [e2]; exact e, by rw [e2]; exact hj⟩
def rhi (row : Int64) (n : Nat) : Int64 := (row.toUInt64 >>> ((nI (4 * n)).toInt64.toUInt64 &&& Int64.toUInt64 63)).toInt64
def nsm (bl : Nat → Nat) (E : Nat → Int64) (num : Int64) (p : Nat) : Nat → Int64
  | 0 => num
  | l + 1 => nsm bl E num p l + rof bl E p l
def nmF (bl : Nat → Nat) (n : Nat) (E : Nat → Int64) (row : Int64) : Nat → Int64 → Nat → Int64
  | 0, num, _ => num
  | m + 1, num, p => if dgt row (n - (m + 1)) < n ∧ ndf (bl (dgt row (n - (m + 1))) ||| 2 ^ dgt row (n - (m + 1))) p = 2 ^ dgt row (n - (m + 1)) then nmF bl n E row m (nsm bl E num p (dgt row (n - (m + 1)))) (p ||| 2 ^ dgt row (n - (m + 1))) else -1
def nmR (bl : Nat → Nat) (n : Nat) (E : Nat → Int64) (row : Int64) : Int64 := if rhi row n = 0 then nmF bl n E row n 0 0 else -1
theorem hasb_nI {n j : Nat} (hn : n < 2 ^ 31) (hj : j < 2 ^ 31) : hasb n (nI j) = decide (j < n) := by
  unfold hasb
  congr 1
  exact propext ⟨fun q => (nI_ltI hj hn).mp q.2, fun q => ⟨nI_pos' hj, nI_lt q hn⟩⟩
set_option maxHeartbeats 4000000 in
set_option maxRecDepth 100000 in
theorem c_numberOf (K : zK) (r o b a g e : Nat) (bl ab : Nat → Nat) (n : Nat) (ver : Int32) (B E : Nat → Int64) (cap : Nat) (idl bs es : Int32) (row : Int64) (hn : n ≤ 14) (hb : ∀ j, bl j < 2 ^ 14) (hp : pw2 cap) (hs : bs = ver → rbV bl n cap B idl) (he : es = ver → bs = ver ∧ reV bl n E) :
    zM (S := Nat × Nat × (Nat → Int64)) K yX6_numberOf cX6_numberOf 9 (some .long) (zqB 4 bs ver n cap 88) [.ref r, .long row] (wR K r o b a g e bl ab n ver B E cap idl bs es) (fun u => reV bl n u.2.2) (fun u => some (.long (nmR bl n u.2.2 row))) (fun u => wR K r o b a u.1 u.2.1 bl ab n ver (rBeg bl n) u.2.2 (capB bs ver n cap) (nI (rIdl bl n)) ver ver) := by
  have hcb := capB_ok hp hn (fun q => (hs q).2.2)
  have hpos : 0 < 2 ^ n := Nat.two_pow_pos n
  have hp14 := pow_le14 hn
  refine zo (by decide) (Nat.le_of_ble_eq_true rfl) fun x C R _ => ?_
  refine zv_go C okX6_numberOf [] 1 ?_
  refine zv_callV C (c_refreshE K r o b a g e bl ab n ver B E cap idl bs es hn hb hp hs he) (zw_V inX6_refreshEndings kX6_41 ⟨by show 3 + 1 ≤ 4; omega, by show 8 + (1 + 11) + 68 ≤ 88; omega⟩) [0, 1, 2, 3, 4, 5] 0 rfl rfl rfl rfl (fun _ => Nat.le_refl _) rfl rfl (by decide) dzX6_numberOf_1 (Nat.le_of_eq (Nat.zero_add _)) (Nat.le_of_eq (Nat.zero_add _)) rfl (fun u hu => ?_)
  refine zv_to C rfl rfl (ws' := wR K r o b a u.1 u.2.1 bl ab n ver (rBeg bl n) u.2.2 (capB bs ver n cap) (nI (rIdl bl n)) ver ver) rfl ?_
  refine zv_wide C (ce' := capB bs ver n cap - cap) (sl' := 4 * (capB bs ver n cap - cap)) (Nat.le_of_eq (Nat.zero_add _)) (Nat.le_of_eq (Nat.zero_add _)) ?_
  have inner : ∀ (i p d : Nat) (num : Int64), p < 2 ^ n → d < n → zv_V x (gz K (zqB 4 bs ver n cap 88) 9 cX6_numberOf yX6_numberOf.cls) 113 [(0, .ref r), (1, .long row), (3, .long (nsm bl u.2.2 num p d)), (5, .int (nI p)), (6, .int (nI i)), (7, .int (nI d)), (8, .int (nI d))] [] (wR K r o b a u.1 u.2.1 bl ab n ver (rBeg bl n) u.2.2 (capB bs ver n cap) (nI (rIdl bl n)) ver ver) (capB bs ver n cap - cap) (4 * (capB bs ver n cap - cap)) → ∀ m l, l + m = d → zv_V x (gz K (zqB 4 bs ver n cap 88) 9 cX6_numberOf yX6_numberOf.cls) 89 [(0, .ref r), (1, .long row), (3, .long (nsm bl u.2.2 num p l)), (5, .int (nI p)), (6, .int (nI i)), (7, .int (nI d)), (8, .int (nI l))] [] (wR K r o b a u.1 u.2.1 bl ab n ver (rBeg bl n) u.2.2 (capB bs ver n cap) (nI (rIdl bl n)) ver ver) (capB bs ver n cap - cap) (4 * (capB bs ver n cap - cap)) := by
    intro i p d num hpp hd hk m
    induction m with
    | zero =>
      intro l hl
      have e1 : l = d := by omega
      subst e1
      refine zv_go C okX6_numberOf [113] 20 ?_
      refine ⟨fun _ => ?_, fun h => absurd (nI_le (Nat.le_refl _) (by omega)) h⟩
      exact hk
    | succ m ih =>
      intro l hl
      refine zv_go C okX6_numberOf [] 20 ?_
      refine ⟨fun h => absurd h (nI_ge (by omega) (by omega)), fun _ => ?_⟩
      refine zv_callV C (c_rowsOnFrom K r o b a u.1 u.2.1 bl ab n ver (rBeg bl n) u.2.2 (capB bs ver n cap) (nI (rIdl bl n)) ver ver (p := p) (v := l) hpp (by omega) hn hb hcb.1 hcb.2.1) (zw_V inX6_rowsOnFrom kX6_54 ⟨by show 2 + 1 ≤ 4; omega, by show 8 + (3 + 11) + 43 ≤ 88; omega⟩) [0, 1, 2, 3, 4, 5] 0 rfl rfl rfl rfl (fun _ => Nat.le_refl _) (rest := [.long (nsm bl u.2.2 num p l)]) rfl rfl (Nat.le_of_ble_eq_true rfl) dzX6_numberOf_102 (Nat.le_refl _) (Nat.le_refl _) rfl (fun _ _ => ?_)
      refine zv_to C rfl rfl (ws' := wR K r o b a u.1 u.2.1 bl ab n ver (rBeg bl n) u.2.2 (capB bs ver n cap) (nI (rIdl bl n)) ver ver) rfl ?_
      refine zv_go C okX6_numberOf [89] 20 ?_
      exact zv_to C (lv' := [(0, .ref r), (1, .long row), (3, .long (nsm bl u.2.2 num p (l + 1))), (5, .int (nI p)), (6, .int (nI i)), (7, .int (nI d)), (8, .int (nI (l + 1)))]) (by rw [← nI_1] <;> rfl) rfl rfl (ih (l + 1) (by omega))
  have loop : ∀ m (num : Int64) (p : Nat) (lv2 : zv_L), m ≤ n → p < 2 ^ n → rhi row n = 0 → nmF bl n u.2.2 row m num p = nmF bl n u.2.2 row n 0 0 → (lv2 = [] ∨ ∃ z w, lv2 = [(7, .int z), (8, .int w)]) → zv_V x (gz K (zqB 4 bs ver n cap 88) 9 cX6_numberOf yX6_numberOf.cls) 32 ([(0, .ref r), (1, .long row), (3, .long num), (5, .int (nI p)), (6, .int (nI (n - m)))] ++ lv2) [] (wR K r o b a u.1 u.2.1 bl ab n ver (rBeg bl n) u.2.2 (capB bs ver n cap) (nI (rIdl bl n)) ver ver) (capB bs ver n cap - cap) (4 * (capB bs ver n cap - cap)) := by
    intro m
    induction m with
    | zero =>
      intro num p lv2 _ hpp hr0 hf hl2
      refine zv_drop C [0, 1, 2, 3, 4] (lv' := [(0, .ref r), (1, .long row), (3, .long num), (5, .int (nI p)), (6, .int (nI (n - 0)))]) (by rcases hl2 with rfl | ⟨z, w, rfl⟩ <;> rfl) ?_
      refine zv_go C okX6_numberOf [] 20 ?_
      refine ⟨rfl, rfl, fun _ => ?_, fun h => absurd (nI_le (by omega) (by omega)) h⟩
      exact zr R u [0, 1, 2, 3, 4, 5] (some (.long _)) _ (by unfold nmR; rw [if_pos hr0, ← hf] <;> rfl) rfl hu rfl rfl (Nat.le_refl _) (Nat.le_refl _) dzX6_numberOf_129
    | succ m ih =>
      intro num p lv2 hm hpp hr0 hf hl2
      have enx : nI (n - (m + 1)) + 1 = nI (n - m) := by rw [nI_1]; congr 1; omega
      obtain ⟨d1, d2⟩ := dgt_ok row (n - (m + 1))
      refine zv_drop C [0, 1, 2, 3, 4] (lv' := [(0, .ref r), (1, .long row), (3, .long num), (5, .int (nI p)), (6, .int (nI (n - (m + 1))))]) (by rcases hl2 with rfl | ⟨z, w, rfl⟩ <;> rfl) ?_
      refine zv_go C okX6_numberOf [] 20 ?_
      refine ⟨rfl, rfl, fun h => absurd h (nI_ge (by omega) (by omega)), fun _ => ⟨rfl, ?_⟩⟩
      rw [nmF] at hf
      refine zv_to C (lv' := [(0, .ref r), (1, .long row), (3, .long num), (5, .int (nI p)), (6, .int (nI (n - (m + 1)))), (7, .int (nI (dgt row (n - (m + 1)))))]) (by rw [← d1]; unfold dgI; rw [← pk_mul] <;> rfl) (st' := [.int (nI (dgt row (n - (m + 1)))), .ref o]) (by rw [← d1]; unfold dgI; rw [← pk_mul] <;> rfl) rfl ?_
      generalize hdd : dgt row (n - (m + 1)) = d at d2 hf ⊢
      refine zv_callV C (c_has K o b a bl ab n ver (nI d)) (zw_V inX4_has kX6_62 ⟨by show 0 + 1 ≤ 4; omega, by show 8 + (2 + 11) + 0 ≤ 88; omega⟩) [1, 2, 3] 1 rfl rfl rfl rfl (fun _ => Nat.le_refl _) rfl rfl (by decide) dzX6_numberOf_62 (Nat.le_refl _) (Nat.le_refl _) rfl (fun _ _ => ?_)
      refine zv_to C rfl rfl (ws' := wR K r o b a u.1 u.2.1 bl ab n ver (rBeg bl n) u.2.2 (capB bs ver n cap) (nI (rIdl bl n)) ver ver) rfl ?_
      refine zv_go C okX6_numberOf [] 20 ?_
      refine ⟨fun h => ?_, fun h => ⟨rfl, ?_⟩⟩
      · rw [bI_0, hasb_nI (by omega) (by omega), decide_eq_false_iff_not] at h
        rw [if_neg (fun q => h q.1)] at hf
        exact zr R u [0, 1, 2, 3, 4, 5] (some (.long (-1))) _ (by unfold nmR; rw [if_pos hr0, ← hf]) rfl hu rfl rfl (Nat.le_refl _) (Nat.le_refl _) dzX6_numberOf_85
      · rw [bI_1, hasb_nI (by omega) (by omega), decide_eq_true_eq] at h
        refine zv_callV C (c_canFollow K o b a bl ab n ver (s := p) (v := d) (by omega) (hb d)) (zw_V inX4_canFollow kX6_66 ⟨by show 1 + 1 ≤ 4; omega, by show 8 + (3 + 11) + 21 ≤ 88; omega⟩) [1, 2, 3] 1 rfl rfl rfl rfl (fun _ => Nat.le_refl _) rfl rfl (by decide) dzX6_numberOf_76 (Nat.le_refl _) (Nat.le_refl _) rfl (fun _ _ => ?_)
        refine zv_to C rfl rfl (ws' := wR K r o b a u.1 u.2.1 bl ab n ver (rBeg bl n) u.2.2 (capB bs ver n cap) (nI (rIdl bl n)) ver ver) rfl ?_
        refine zv_go C okX6_numberOf [89] 20 ?_
        refine ⟨fun h2 => ?_, fun h2 => ?_⟩
        · rw [bI_1, decide_eq_true_eq] at h2
          rw [if_pos ⟨h, h2⟩] at hf
          refine inner (n - (m + 1)) p d num hpp h ?_ d 0 (by omega)
          refine zv_go C okX6_numberOf [32] 20 ?_
          refine zv_to C (lv' := [(0, .ref r), (1, .long row), (3, .long (nsm bl u.2.2 num p d)), (5, .int (nI (p ||| 2 ^ d))), (6, .int (nI (n - m))), (7, .int (nI d)), (8, .int (nI d))]) ?_ rfl rfl (ih _ _ [(7, .int (nI d)), (8, .int (nI d))] (by omega) (nb_lt_or hpp (nb_lt_pow h)) hr0 hf (Or.inr ⟨_, _, rfl⟩))
          rw [← enx, ← nb_or, ← nb_1s d (by omega)]
          rfl
        · rw [bI_0, decide_eq_false_iff_not] at h2
          rw [if_neg (fun q => h2 q.2)] at hf
          exact zr R u [0, 1, 2, 3, 4, 5] (some (.long (-1))) _ (by unfold nmR; rw [if_pos hr0, ← hf]) rfl hu rfl rfl (Nat.le_refl _) (Nat.le_refl _) dzX6_numberOf_85
  refine zv_go C okX6_numberOf [32] 30 ?_
  have erh : (row.toUInt64 >>> (((4 : Int32) * nI n).toInt64.toUInt64 &&& Int64.toUInt64 63)).toInt64 = rhi row n := by
    unfold rhi
    rw [← pk_mul]
    rfl
  refine ⟨rfl, rfl, fun h => ?_, fun h => ?_⟩
  · have h : lg_cmp (row.toUInt64 >>> (((4 : Int32) * nI n).toInt64.toUInt64 &&& Int64.toUInt64 63)).toInt64 0 = 0 := h
    rw [lg_c0, erh] at h
    exact zv_to C (lv' := [(0, .ref r), (1, .long row), (3, .long 0), (5, .int (nI 0)), (6, .int (nI (n - n)))]) (by rw [Nat.sub_self] <;> rfl) rfl rfl (loop n 0 0 [] (Nat.le_refl _) hpos h rfl (Or.inl rfl))
  · have h : ¬ lg_cmp (row.toUInt64 >>> (((4 : Int32) * nI n).toInt64.toUInt64 &&& Int64.toUInt64 63)).toInt64 0 = 0 := h
    rw [lg_c0, erh] at h
    exact zr R u [0, 1, 2, 3, 4, 5] (some (.long (-1))) _ (by unfold nmR; rw [if_neg h]) rfl hu rfl rfl (Nat.le_refl _) (Nat.le_refl _) dzX6_numberOf_23
end
section
def tbX8_isPart : List zv_I := [(0, .iload_n 0, 1, (0, 0, 0, 0, 0, 0)), (1, .iload_n 1, 2, (0, 0, 0, 0, 0, 0)), (2, .iconst (-1), 3, (0, 0, 0, 0, (-1), 0)), (3, .ixor, 4, (0, 0, 0, 0, 0, 0)), (4, .iand, 5, (0, 0, 0, 0, 0, 0)), (5, .ifCond .ne 7, 8, (12, 0, 0, 0, 0, 0)), (8, .iconst 1, 9, (0, 0, 0, 0, 1, 0)), (9, .goto 4, 12, (13, 0, 0, 0, 0, 0)), (12, .iconst 0, 13, (0, 0, 0, 0, 0, 0)), (13, .ireturn, 14, (0, 0, 0, 0, 0, 0))]
theorem okX8_isPart : zv_ok 2 cX8_isPart RX8 zt vwCl tbX8_isPart = true := by decide +kernel
theorem dzX8_isPart_13 : decode cX8_isPart 13 = .ok (.ireturn, 1) := by decide +kernel
set_option maxRecDepth 100000 in
theorem inX8_isPart : Jvm.Cond.code yX8_isPart cX8_isPart 2 ((some .boolean)) ∈ zt := List.mem_filter.mpr ⟨List.mem_append_right _ (List.mem_of_getElem? (i := 564) rfl), rfl⟩
def tbX3_init : List zv_I := [(0, .aload_n 0, 1, (0, 0, 0, 0, 0, 0)), (1, .invokespecial 3, 4, (0, 0, 0, 0, 0, 0)), (4, .aload_n 0, 5, (0, 0, 0, 0, 0, 0)), (5, .bipush 16, 7, (0, 0, 0, 0, 16, 0)), (7, .newarray .int, 9, (0, 0, 0, 0, 0, 0)), (9, .putfield 9, 12, (0, 3, 0, 2, 0, 0)), (12, .aload_n 0, 13, (0, 0, 0, 0, 0, 0)), (13, .bipush 16, 15, (0, 0, 0, 0, 16, 0)), (15, .newarray .int, 17, (0, 0, 0, 0, 0, 0)), (17, .putfield 15, 20, (0, 3, 1, 2, 0, 0)), (20, .return_, 21, (0, 0, 0, 0, 0, 0))]
theorem okX3_init : zv_ok 1 cX3_init RX3 zt vwCl tbX3_init = true := by decide +kernel
theorem dzX3_init_1 : decode cX3_init 1 = .ok (.invokespecial 3, 3) := by decide +kernel
theorem dzX3_init_7 : decode cX3_init 7 = .ok (.newarray .int, 2) := by decide +kernel
theorem dzX3_init_15 : decode cX3_init 15 = .ok (.newarray .int, 2) := by decide +kernel
theorem dzX3_init_20 : decode cX3_init 20 = .ok (.return_, 1) := by decide +kernel
set_option maxRecDepth 100000 in
theorem inX3_init : Jvm.Cond.code yX3_init cX3_init 1 none ∈ zt := List.mem_filter.mpr ⟨List.mem_append_right _ (List.mem_of_getElem? (i := 189) rfl), rfl⟩
def tbX3_clear : List zv_I := [(0, .aload_n 0, 1, (0, 0, 0, 0, 0, 0)), (1, .iconst 0, 2, (0, 0, 0, 0, 0, 0)), (2, .putfield 18, 5, (0, 3, 2, 0, 0, 0)), (5, .return_, 6, (0, 0, 0, 0, 0, 0))]
theorem okX3_clear : zv_ok 1 cX3_clear RX3 zt vwCl tbX3_clear = true := by decide +kernel
theorem dzX3_clear_5 : decode cX3_clear 5 = .ok (.return_, 1) := by decide +kernel
set_option maxRecDepth 100000 in
theorem inX3_clear : Jvm.Cond.code yX3_clear cX3_clear 1 none ∈ zt := List.mem_filter.mpr ⟨List.mem_append_right _ (List.mem_of_getElem? (i := 544) rfl), rfl⟩
def tbX3_add : List zv_I := [(0, .aload_n 0, 1, (0, 0, 0, 0, 0, 0)), (1, .invokevirtual 22, 4, (0, 0, 0, 0, 0, 0)), (4, .aload_n 0, 5, (0, 0, 0, 0, 0, 0)), (5, .getfield 18, 8, (0, 3, 2, 0, 0, 0)), (8, .istore_n 2, 9, (0, 0, 0, 0, 0, 0)), (9, .iload_n 2, 10, (0, 0, 0, 0, 0, 0)), (10, .ifCond .le 35, 13, (45, 0, 0, 0, 0, 0)), (13, .aload_n 0, 14, (0, 0, 0, 0, 0, 0)), (14, .getfield 9, 17, (0, 3, 0, 0, 0, 0)), (17, .iload_n 2, 18, (0, 0, 0, 0, 0, 0)), (18, .iconst 1, 19, (0, 0, 0, 0, 1, 0)), (19, .isub, 20, (0, 0, 0, 0, 0, 0)), (20, .iaload, 21, (1, 0, 0, 0, 0, 0)), (21, .iload_n 1, 22, (0, 0, 0, 0, 0, 0)), (22, .if_icmp .le 23, 25, (45, 0, 0, 0, 0, 0)), (25, .aload_n 0, 26, (0, 0, 0, 0, 0, 0)), (26, .getfield 9, 29, (0, 3, 0, 0, 0, 0)), (29, .iload_n 2, 30, (0, 0, 0, 0, 0, 0)), (30, .aload_n 0, 31, (0, 0, 0, 0, 0, 0)), (31, .getfield 9, 34, (0, 3, 0, 0, 0, 0)), (34, .iload_n 2, 35, (0, 0, 0, 0, 0, 0)), (35, .iconst 1, 36, (0, 0, 0, 0, 1, 0)), (36, .isub, 37, (0, 0, 0, 0, 0, 0)), (37, .iaload, 38, (1, 0, 0, 0, 0, 0)), (38, .iastore, 39, (1, 0, 0, 0, 0, 0)), (39, .iinc 2 (-1), 42, (0, 0, 0, 0, (-1), 0)), (42, .goto (-33), 45, (9, 0, 0, 0, 0, 0)), (45, .aload_n 0, 46, (0, 0, 0, 0, 0, 0)), (46, .getfield 9, 49, (0, 3, 0, 0, 0, 0)), (49, .iload_n 2, 50, (0, 0, 0, 0, 0, 0)), (50, .iload_n 1, 51, (0, 0, 0, 0, 0, 0)), (51, .iastore, 52, (1, 0, 0, 0, 0, 0)), (52, .aload_n 0, 53, (0, 0, 0, 0, 0, 0)), (53, .dup, 54, (0, 0, 0, 0, 0, 0)), (54, .getfield 18, 57, (0, 3, 2, 0, 0, 0)), (57, .iconst 1, 58, (0, 0, 0, 0, 1, 0)), (58, .iadd, 59, (0, 0, 0, 0, 0, 0)), (59, .putfield 18, 62, (0, 3, 2, 0, 0, 0)), (62, .return_, 63, (0, 0, 0, 0, 0, 0))]
theorem okX3_add : zv_ok 3 cX3_add RX3 zt vwCl tbX3_add = true := by decide +kernel
theorem dzX3_add_1 : decode cX3_add 1 = .ok (.invokevirtual 22, 3) := by decide +kernel
theorem dzX3_add_62 : decode cX3_add 62 = .ok (.return_, 1) := by decide +kernel
set_option maxRecDepth 100000 in
theorem inX3_add : Jvm.Cond.code yX3_add cX3_add 3 none ∈ zt := List.mem_filter.mpr ⟨List.mem_append_right _ (List.mem_of_getElem? (i := 548) rfl), rfl⟩
def tbX3_ofFirstWithLast : List zv_I := [(0, .aload_n 0, 1, (0, 0, 0, 0, 0, 0)), (1, .getfield 18, 4, (0, 3, 2, 0, 0, 0)), (4, .ifCond .ne 5, 7, (9, 0, 0, 0, 0, 0)), (7, .iconst 0, 8, (0, 0, 0, 0, 0, 0)), (8, .ireturn, 9, (0, 0, 0, 0, 0, 0)), (9, .aload_n 0, 10, (0, 0, 0, 0, 0, 0)), (10, .getfield 15, 13, (0, 3, 1, 0, 0, 0)), (13, .iconst 0, 14, (0, 0, 0, 0, 0, 0)), (14, .iconst 1, 15, (0, 0, 0, 0, 1, 0)), (15, .iastore, 16, (2, 0, 0, 0, 0, 0)), (16, .iconst 1, 17, (0, 0, 0, 0, 1, 0)), (17, .istore_n 1, 18, (0, 0, 0, 0, 0, 0)), (18, .iload_n 1, 19, (0, 0, 0, 0, 0, 0)), (19, .aload_n 0, 20, (0, 0, 0, 0, 0, 0)), (20, .getfield 18, 23, (0, 3, 2, 0, 0, 0)), (23, .if_icmp .ge 21, 26, (44, 0, 0, 0, 0, 0)), (26, .aload_n 0, 27, (0, 0, 0, 0, 0, 0)), (27, .getfield 15, 30, (0, 3, 1, 0, 0, 0)), (30, .iload_n 1, 31, (0, 0, 0, 0, 0, 0)), (31, .aload_n 0, 32, (0, 0, 0, 0, 0, 0)), (32, .iload_n 1, 33, (0, 0, 0, 0, 0, 0)), (33, .invokevirtual 25, 36, (0, 0, 0, 0, 0, 0)), (36, .ineg, 37, (0, 0, 0, 0, 0, 0)), (37, .iastore, 38, (2, 0, 0, 0, 0, 0)), (38, .iinc 1 1, 41, (0, 0, 0, 0, 1, 0)), (41, .goto (-23), 44, (18, 0, 0, 0, 0, 0)), (44, .aload_n 0, 45, (0, 0, 0, 0, 0, 0)), (45, .getfield 15, 48, (0, 3, 1, 0, 0, 0)), (48, .aload_n 0, 49, (0, 0, 0, 0, 0, 0)), (49, .getfield 18, 52, (0, 3, 2, 0, 0, 0)), (52, .iconst 1, 53, (0, 0, 0, 0, 1, 0)), (53, .isub, 54, (0, 0, 0, 0, 0, 0)), (54, .iaload, 55, (2, 0, 0, 0, 0, 0)), (55, .ireturn, 56, (0, 0, 0, 0, 0, 0))]
theorem okX3_ofFirstWithLast : zv_ok 2 cX3_ofFirstWithLast RX3 zt vwCl tbX3_ofFirstWithLast = true := by decide +kernel
theorem dzX3_ofFirstWithLast_8 : decode cX3_ofFirstWithLast 8 = .ok (.ireturn, 1) := by decide +kernel
theorem dzX3_ofFirstWithLast_33 : decode cX3_ofFirstWithLast 33 = .ok (.invokevirtual 25, 3) := by decide +kernel
theorem dzX3_ofFirstWithLast_55 : decode cX3_ofFirstWithLast 55 = .ok (.ireturn, 1) := by decide +kernel
set_option maxRecDepth 100000 in
theorem inX3_ofFirstWithLast : Jvm.Cond.code yX3_ofFirstWithLast cX3_ofFirstWithLast 2 ((some .int)) ∈ zt := List.mem_filter.mpr ⟨List.mem_append_right _ (List.mem_of_getElem? (i := 557) rfl), rfl⟩
def tbX3_sumUnder : List zv_I := [(0, .iconst 0, 1, (0, 0, 0, 0, 0, 0)), (1, .istore_n 2, 2, (0, 0, 0, 0, 0, 0)), (2, .iconst 0, 3, (0, 0, 0, 0, 0, 0)), (3, .istore_n 3, 4, (0, 0, 0, 0, 0, 0)), (4, .iload_n 3, 5, (0, 0, 0, 0, 0, 0)), (5, .iload_n 1, 6, (0, 0, 0, 0, 0, 0)), (6, .if_icmp .ge 36, 9, (42, 0, 0, 0, 0, 0)), (9, .aload_n 0, 10, (0, 0, 0, 0, 0, 0)), (10, .getfield 9, 13, (0, 3, 0, 0, 0, 0)), (13, .iload_n 3, 14, (0, 0, 0, 0, 0, 0)), (14, .iaload, 15, (1, 0, 0, 0, 0, 0)), (15, .aload_n 0, 16, (0, 0, 0, 0, 0, 0)), (16, .getfield 9, 19, (0, 3, 0, 0, 0, 0)), (19, .iload_n 1, 20, (0, 0, 0, 0, 0, 0)), (20, .iaload, 21, (1, 0, 0, 0, 0, 0)), (21, .invokestatic 29, 24, (0, 0, 0, 0, 0, 0)), (24, .ifCond .eq 12, 27, (36, 0, 0, 0, 0, 0)), (27, .iload_n 2, 28, (0, 0, 0, 0, 0, 0)), (28, .aload_n 0, 29, (0, 0, 0, 0, 0, 0)), (29, .getfield 15, 32, (0, 3, 1, 0, 0, 0)), (32, .iload_n 3, 33, (0, 0, 0, 0, 0, 0)), (33, .iaload, 34, (2, 0, 0, 0, 0, 0)), (34, .iadd, 35, (0, 0, 0, 0, 0, 0)), (35, .istore_n 2, 36, (0, 0, 0, 0, 0, 0)), (36, .iinc 3 1, 39, (0, 0, 0, 0, 1, 0)), (39, .goto (-35), 42, (4, 0, 0, 0, 0, 0)), (42, .iload_n 2, 43, (0, 0, 0, 0, 0, 0)), (43, .ireturn, 44, (0, 0, 0, 0, 0, 0))]
theorem okX3_sumUnder : zv_ok 4 cX3_sumUnder RX3 zt vwCl tbX3_sumUnder = true := by decide +kernel
theorem dzX3_sumUnder_21 : decode cX3_sumUnder 21 = .ok (.invokestatic 29, 3) := by decide +kernel
theorem dzX3_sumUnder_43 : decode cX3_sumUnder 43 = .ok (.ireturn, 1) := by decide +kernel
set_option maxRecDepth 100000 in
theorem inX3_sumUnder : Jvm.Cond.code yX3_sumUnder cX3_sumUnder 4 ((some .int)) ∈ zt := List.mem_filter.mpr ⟨List.mem_append_right _ (List.mem_of_getElem? (i := 561) rfl), rfl⟩
def tbX3_makeRoom : List zv_I := [(0, .aload_n 0, 1, (0, 0, 0, 0, 0, 0)), (1, .getfield 18, 4, (0, 3, 2, 0, 0, 0)), (4, .aload_n 0, 5, (0, 0, 0, 0, 0, 0)), (5, .getfield 9, 8, (0, 3, 0, 0, 0, 0)), (8, .arraylength, 9, (1, 0, 0, 0, 0, 0)), (9, .if_icmp .ne 37, 12, (46, 0, 0, 0, 0, 0)), (12, .aload_n 0, 13, (0, 0, 0, 0, 0, 0)), (13, .aload_n 0, 14, (0, 0, 0, 0, 0, 0)), (14, .getfield 9, 17, (0, 3, 0, 0, 0, 0)), (17, .iconst 2, 18, (0, 0, 0, 0, 2, 0)), (18, .aload_n 0, 19, (0, 0, 0, 0, 0, 0)), (19, .getfield 18, 22, (0, 3, 2, 0, 0, 0)), (22, .imul, 23, (0, 0, 0, 0, 0, 0)), (23, .invokestatic 33, 26, (0, 0, 0, 0, 0, 0)), (26, .putfield 9, 29, (0, 3, 0, 2, 0, 0)), (29, .aload_n 0, 30, (0, 0, 0, 0, 0, 0)), (30, .aload_n 0, 31, (0, 0, 0, 0, 0, 0)), (31, .getfield 15, 34, (0, 3, 1, 0, 0, 0)), (34, .iconst 2, 35, (0, 0, 0, 0, 2, 0)), (35, .aload_n 0, 36, (0, 0, 0, 0, 0, 0)), (36, .getfield 18, 39, (0, 3, 2, 0, 0, 0)), (39, .imul, 40, (0, 0, 0, 0, 0, 0)), (40, .invokestatic 33, 43, (0, 0, 0, 0, 0, 0)), (43, .putfield 15, 46, (0, 3, 1, 2, 0, 0)), (46, .return_, 47, (0, 0, 0, 0, 0, 0))]
theorem okX3_makeRoom : zv_ok 1 cX3_makeRoom RX3 zt vwCl tbX3_makeRoom = true := by decide +kernel
theorem dzX3_makeRoom_23 : decode cX3_makeRoom 23 = .ok (.invokestatic 33, 3) := by decide +kernel
theorem dzX3_makeRoom_40 : decode cX3_makeRoom 40 = .ok (.invokestatic 33, 3) := by decide +kernel
theorem dzX3_makeRoom_46 : decode cX3_makeRoom 46 = .ok (.return_, 1) := by decide +kernel
set_option maxRecDepth 100000 in
theorem inX3_makeRoom : Jvm.Cond.code yX3_makeRoom cX3_makeRoom 1 none ∈ zt := List.mem_filter.mpr ⟨List.mem_append_right _ (List.mem_of_getElem? (i := 552) rfl), rfl⟩
end
section
/-! MU ROW -/
set_option maxHeartbeats 4000000 in
set_option maxRecDepth 100000 in
theorem c_isPart (K : zK) {p s : Nat} (hp : p < 2 ^ 32) : zD K yX8_isPart cX8_isPart 2 (some .boolean) (zq 0 0 0 0) [.int (nI p), .int (nI s)] [] (some (.int (bI (decide (ndf p s = 0))))) [] := by
  refine zo (by decide) (Nat.le_of_ble_eq_true rfl) fun x C R _ => ?_
  refine zv_go C okX8_isPart [] 20 ?_
  have hl : ndf p s < 2 ^ 32 := Nat.lt_of_le_of_lt (ndf_le _ _) hp
  refine ⟨fun h => ?_, fun h => ?_⟩
  · rw [nb_not, nb_0 hl] at h
    exact zr R () [] (some (.int 0)) _ (by rw [decide_eq_false h] <;> rfl) rfl trivial rfl rfl (Nat.le_refl _) (Nat.le_refl _) ⟨rfl, dzX8_isPart_13⟩
  · rw [nb_not, nb_0 hl] at h
    exact zr R () [] (some (.int 1)) _ (by rw [decide_eq_true h] <;> rfl) rfl trivial rfl rfl (Nat.le_refl _) (Nat.le_refl _) ⟨rfl, dzX8_isPart_13⟩
abbrev wU (K : zK) (m s t : Nat) (sf mf : Nat → Int32) (cap : Nat) (len : Int32) : va_W := [(m, .inr (3, [.ref s, .ref t, .int len])), (s, .inl (cI K, cap, .inl sf)), (t, .inl (cI K, cap, .inl mf))]
set_option maxHeartbeats 4000000 in
set_option maxRecDepth 100000 in
theorem c_clear (K : zK) (m s t : Nat) (sf mf : Nat → Int32) (cap : Nat) (len : Int32) : zD K yX3_clear cX3_clear 1 none (zq 0 0 0 0) [.ref m] (wU K m s t sf mf cap len) none (wU K m s t sf mf cap (nI 0)) := by
  refine zo (by decide) (Nat.le_of_ble_eq_true rfl) fun x C R _ => ?_
  refine zv_go C okX3_clear [] 20 ?_
  refine ⟨rfl, ?_⟩
  exact zr R () [0, 1, 2] none _ rfl rfl trivial rfl rfl (Nat.le_refl _) (Nat.le_refl _) dzX3_clear_5
abbrev zqU (f cap L l : Nat) : Room := zq f (2 * (capN cap L - cap)) (4 * (capN cap L - cap)) l
set_option maxHeartbeats 4000000 in
set_option maxRecDepth 100000 in
theorem c_muRoom (K : zK) (m s t : Nat) (sf mf : Nat → Int32) (cap L : Nat) (h0 : 0 < cap) (hL : L ≤ cap) (hL2 : L ≤ 16384) (hcap : cap ≤ 65536) :
    zM (S := Nat × Nat × (Nat → Int32) × (Nat → Int32)) K yX3_makeRoom cX3_makeRoom 1 none (zqU 2 cap L 82) [.ref m] (wU K m s t sf mf cap (nI L)) (fun u => ∀ j, j < L → u.2.2.1 j = sf j) (fun _ => none) (fun u => wU K m u.1 u.2.1 u.2.2.1 u.2.2.2 (capN cap L) (nI L)) := by
  refine zo (by decide) (Nat.le_of_ble_eq_true rfl) fun x C R _ => ?_
  refine zv_go C okX3_makeRoom [] 20 ?_
  refine ⟨rfl, rfl, ⟨rfl, rfl⟩, fun h => ?_, fun h => ⟨rfl, rfl, ?_⟩⟩
  · rw [nb_inj (by omega) (by omega)] at h
    have e : capN cap L = cap := if_neg h
    exact zr R (s, t, sf, mf) [0, 1, 2] none (wU K m s t sf mf cap (nI L)) rfl (by rw [e]) (fun _ _ => rfl) rfl rfl (Nat.zero_le _) (Nat.zero_le _) dzX3_makeRoom_46
  · have h : nI L = nI cap := h
    rw [nb_inj (by omega) (by omega)] at h
    subst h
    have e : capN L L = 2 * L := if_pos rfl
    refine zv_to C rfl (st' := [.int (nI (2 * L)), .ref s, .ref m]) (by rw [← pk_mul] <;> rfl) rfl ?_
    refine zv_callS C (c_copyOf K s L (2 * L) sf (by omega) (by omega)) (zw_S inJ7_copyOf_59c91 kX3_33 ⟨by show 1 + 1 ≤ 2; omega, by show 8 + (3 + 11) + 60 ≤ 82; omega⟩) [1] rfl rfl (fun _ => by show 1 ≤ 2; omega) (rest := [.ref m]) rfl rfl (Nat.le_of_ble_eq_true rfl) dzX3_makeRoom_23 (by show 0 + 1 ≤ 2 * (capN L L - L); rw [e]; omega) (by show 0 + 2 * L ≤ 4 * (capN L L - L); rw [e]; omega) rfl (fun u _ => ?_)
    refine zv_cells C [0, 3, 2] rfl (ws' := [(m, .inr (3, [.ref s, .ref t, .int (nI L)])), (u, .inl (cI K, 2 * L, .inl (fun j => if j < L then sf j else 0))), (t, .inl (cI K, L, .inl mf))]) rfl ?_
    refine zv_go C okX3_makeRoom [] 20 ?_
    refine ⟨rfl, rfl, rfl, ?_⟩
    refine zv_to C rfl (st' := [.int (nI (2 * L)), .ref t, .ref m]) (by rw [← pk_mul] <;> rfl) (ws' := [(m, .inr (3, [.ref u, .ref t, .int (nI L)])), (u, .inl (cI K, 2 * L, .inl (fun j => if j < L then sf j else 0))), (t, .inl (cI K, L, .inl mf))]) rfl ?_
    refine zv_callS C (c_copyOf K t L (2 * L) mf (by omega) (by omega)) (zw_S inJ7_copyOf_59c91 kX3_33 ⟨by show 1 + 1 ≤ 2; omega, by show 8 + (3 + 11) + 60 ≤ 82; omega⟩) [2] rfl rfl (fun _ => by show 1 ≤ 2; omega) (rest := [.ref m]) rfl rfl (Nat.le_of_ble_eq_true rfl) dzX3_makeRoom_40 (by show 0 + 1 + 1 ≤ 2 * (capN L L - L); rw [e]; omega) (by show 0 + 2 * L + 2 * L ≤ 4 * (capN L L - L); rw [e]; omega) rfl (fun w _ => ?_)
    refine zv_cells C [0, 1, 3] rfl (ws' := [(m, .inr (3, [.ref u, .ref t, .int (nI L)])), (u, .inl (cI K, 2 * L, .inl (fun j => if j < L then sf j else 0))), (w, .inl (cI K, 2 * L, .inl (fun j => if j < L then mf j else 0)))]) rfl ?_
    refine zv_go C okX3_makeRoom [] 20 ?_
    refine ⟨rfl, ?_⟩
    exact zr R (u, w, (fun j => if j < L then sf j else 0), (fun j => if j < L then mf j else 0)) [0, 1, 2] none (wU K m u w (fun j => if j < L then sf j else 0) (fun j => if j < L then mf j else 0) (2 * L) (nI L)) rfl (by rw [e]) (fun j hj => by show (if j < L then sf j else 0) = sf j; exact if_pos hj) rfl rfl (by show 0 + 1 + 1 ≤ 2 * (capN L L - L); rw [e]; omega) (by show 0 + 2 * L + 2 * L ≤ 4 * (capN L L - L); rw [e]; omega) dzX3_makeRoom_46
/-- where a set goes among the first k -/
def muP (S : Nat → Nat) (v : Nat) : Nat → Nat
  | 0 => 0
  | k + 1 => if v < S k then muP S v k else k + 1
theorem muP_le (S : Nat → Nat) (v : Nat) : ∀ k, muP S v k ≤ k
  | 0 => Nat.le_refl _
  | k + 1 => by
    have h := muP_le S v k
    unfold muP
    split <;> omega
def muI (S : Nat → Nat) (v L : Nat) : Nat → Nat := fun j => if j < muP S v L then S j else if j = muP S v L then v else S (j - 1)
set_option maxHeartbeats 4000000 in
set_option maxRecDepth 100000 in
theorem c_muAdd (K : zK) (m s t : Nat) (sf mf : Nat → Int32) (cap L : Nat) (S : Nat → Nat) (v : Nat) (h0 : 0 < cap) (hL : L ≤ cap) (hL2 : L ≤ 16384) (hcap : cap ≤ 65536) (hS : ∀ j, j < L → sf j = nI (S j) ∧ S j < 2 ^ 14) (hv : v < 2 ^ 14) :
    zM (S := Nat × Nat × (Nat → Int32) × (Nat → Int32)) K yX3_add cX3_add 3 none (zqU 3 cap L 102) [.ref m, .int (nI v)] (wU K m s t sf mf cap (nI L)) (fun u => ∀ j, j < L + 1 → u.2.2.1 j = nI (muI S v L j)) (fun _ => none) (fun u => wU K m u.1 u.2.1 u.2.2.1 u.2.2.2 (capN cap L) (nI (L + 1))) := by
  have hcc : L < capN cap L ∧ capN cap L ≤ 131072 := by unfold capN; split <;> omega
  have hpl := muP_le S v L
  refine zo (by decide) (Nat.le_of_ble_eq_true rfl) fun x C R _ => ?_
  refine zv_go C okX3_add [] 1 ?_
  refine zv_callV C (c_muRoom K m s t sf mf cap L h0 hL hL2 hcap) (zw_V inX3_makeRoom kX3_22 ⟨by show 2 + 1 ≤ 3; omega, by show 8 + (1 + 11) + 82 ≤ 102; omega⟩) [0, 1, 2] 0 rfl rfl rfl rfl (fun _ => Nat.le_refl _) rfl rfl (by decide) dzX3_add_1 (Nat.le_of_eq (Nat.zero_add _)) (Nat.le_of_eq (Nat.zero_add _)) rfl (fun u hu => ?_)
  refine zv_to C rfl rfl (ws' := wU K m u.1 u.2.1 u.2.2.1 u.2.2.2 (capN cap L) (nI L)) rfl ?_
  refine zv_wide C (ce' := 2 * (capN cap L - cap)) (sl' := 4 * (capN cap L - cap)) (Nat.le_of_eq (Nat.zero_add _)) (Nat.le_of_eq (Nat.zero_add _)) ?_
  -- the place is found
  have fin : ∀ (f : Nat → Int32), (∀ j, j < muP S v L → f j = nI (S j)) → (∀ j, muP S v L < j → j ≤ L → f j = nI (S (j - 1))) → zv_V x (gz K (zqU 3 cap L 102) 3 cX3_add yX3_add.cls) 45 [(0, .ref m), (1, .int (nI v)), (2, .int (nI (muP S v L)))] [] (wU K m u.1 u.2.1 f u.2.2.2 (capN cap L) (nI L)) (2 * (capN cap L - cap)) (4 * (capN cap L - cap)) := by
    intro f hf1 hf2
    refine zv_go C okX3_add [] 20 ?_
    refine ⟨rfl, ⟨rfl, rfl⟩, vp_in_nI (by omega) (by omega), rfl, rfl, ?_⟩
    refine zr R (u.1, u.2.1, upd f (nI (muP S v L)).toNatClampNeg (nI v), u.2.2.2) [0, 1, 2] none (wU K m u.1 u.2.1 (upd f (nI (muP S v L)).toNatClampNeg (nI v)) u.2.2.2 (capN cap L) (nI (L + 1))) rfl rfl (fun j hj => ?_) (by rw [← nI_1] <;> rfl) rfl (Nat.le_refl _) (Nat.le_refl _) dzX3_add_62
    show upd f (nI (muP S v L)).toNatClampNeg (nI v) j = _
    rw [nI_clamp (by omega)]
    unfold muI
    by_cases e1 : j = muP S v L
    · rw [e1, pk_us, if_neg (by omega), if_pos rfl]
    · rw [pk_un e1]
      by_cases e2 : j < muP S v L
      · rw [if_pos e2]; exact hf1 j e2
      · rw [if_neg e2, if_neg e1]; exact hf2 j (by omega) (by omega)
  have loop : ∀ k (f : Nat → Int32), k ≤ L → muP S v k = muP S v L → (∀ j, j < k → f j = nI (S j)) → (∀ j, k < j → j ≤ L → f j = nI (S (j - 1))) → zv_V x (gz K (zqU 3 cap L 102) 3 cX3_add yX3_add.cls) 9 [(0, .ref m), (1, .int (nI v)), (2, .int (nI k))] [] (wU K m u.1 u.2.1 f u.2.2.2 (capN cap L) (nI L)) (2 * (capN cap L - cap)) (4 * (capN cap L - cap)) := by
    intro k
    induction k with
    | zero =>
      intro f _ he hf1 hf2
      have he : 0 = muP S v L := he
      refine zv_go C okX3_add [45] 20 ?_
      refine ⟨fun _ => ?_, fun h => absurd (by decide) h⟩
      have hq := fin f (by rw [← he]; exact hf1) (by rw [← he]; exact hf2)
      rw [← he] at hq
      exact hq
    | succ k ih =>
      intro f hk he hf1 hf2
      have ek : nI (k + 1) - 1 = nI k := nI_pred k
      have ek2 : nI (k + 1) + (-1) = nI k := pk_m1 k
      have ec : (nI k).toNatClampNeg = k := nI_clamp (by omega)
      have ec1 : (nI (k + 1)).toNatClampNeg = k + 1 := nI_clamp (by omega)
      have hSk : S k < 2 ^ 14 := (hS k (by omega)).2
      refine zv_go C okX3_add [9, 45] 40 ?_
      refine ⟨fun h => absurd h (nI_nle (by omega) (by omega)), fun _ => ⟨rfl, ⟨rfl, rfl⟩, ?_, fun h => ?_, fun h => ⟨rfl, rfl, ⟨rfl, rfl⟩, ?_, ⟨rfl, rfl⟩, vp_in_nI (by omega) (by omega), ?_⟩⟩⟩
      · show vp_in (nI (k + 1) - 1) (capN cap L)
        rw [ek]; exact vp_in_nI (by omega) (by omega)
      · have h : f (nI (k + 1) - 1).toNatClampNeg ≤ nI v := h
        rw [ek, ec, hf1 k (by omega), nI_leI (by omega) (by omega)] at h
        rw [muP, if_neg (by omega)] at he
        have hq := fin f (by rw [← he]; exact hf1) (by rw [← he]; exact hf2)
        rw [← he] at hq
        exact hq
      · show vp_in (nI (k + 1) - 1) (capN cap L)
        rw [ek]; exact vp_in_nI (by omega) (by omega)
      · have h : ¬ f (nI (k + 1) - 1).toNatClampNeg ≤ nI v := h
        rw [ek, ec, hf1 k (by omega), nI_leI (by omega) (by omega)] at h
        rw [muP, if_pos (by omega)] at he
        refine zv_to C (lv' := [(0, .ref m), (1, .int (nI v)), (2, .int (nI k))]) (by rw [← ek2] <;> rfl) rfl (ws' := wU K m u.1 u.2.1 (upd f (k + 1) (nI (S k))) u.2.2.2 (capN cap L) (nI L)) ?_ (ih _ (by omega) he ?_ ?_)
        · show [_, (u.1, Sum.inl (cI K, capN cap L, Sum.inl (upd f (nI (k + 1)).toNatClampNeg (f (nI (k + 1) - 1).toNatClampNeg)))), _] = _
          rw [ek, ec, ec1, hf1 k (by omega)]
        · intro j hj
          rw [pk_un (by omega)]
          exact hf1 j (by omega)
        · intro j hj1 hj2
          by_cases e1 : j = k + 1
          · rw [e1, pk_us]; rfl
          · rw [pk_un e1]; exact hf2 j (by omega) hj2
  refine zv_go C okX3_add [9] 20 ?_
  refine ⟨rfl, ?_⟩
  exact loop L u.2.2.1 (Nat.le_refl _) rfl (fun j hj => by rw [hu j hj]; exact (hS j hj).1) (fun j h1 h2 => absurd h1 (by omega))
def muSum (S : Nat → Nat) (f : Nat → Int32) (i : Nat) : Nat → Int32
  | 0 => 0
  | k + 1 => if ndf (S k) (S i) = 0 then muSum S f i k + f k else muSum S f i k
set_option maxHeartbeats 4000000 in
set_option maxRecDepth 100000 in
theorem c_sumUnder (K : zK) (m s t : Nat) (sf mf : Nat → Int32) (cap L : Nat) (S : Nat → Nat) (i : Nat) (hi : i < L) (hL : L ≤ cap) (hcap : cap ≤ 131072) (hS : ∀ j, j < L → sf j = nI (S j) ∧ S j < 2 ^ 14) :
    zD K yX3_sumUnder cX3_sumUnder 4 (some .int) (zq 1 0 0 21) [.ref m, .int (nI i)] (wU K m s t sf mf cap (nI L)) (some (.int (muSum S mf i i))) (wU K m s t sf mf cap (nI L)) := by
  refine zo (by decide) (Nat.le_of_ble_eq_true rfl) fun x C R _ => ?_
  have loop : ∀ mm k, k + mm = i → zv_V x (gz K (zq 1 0 0 21) 4 cX3_sumUnder yX3_sumUnder.cls) 4 [(0, .ref m), (1, .int (nI i)), (2, .int (muSum S mf i k)), (3, .int (nI k))] [] (wU K m s t sf mf cap (nI L)) 0 0 := by
    intro mm
    induction mm with
    | zero =>
      intro k hk
      have e1 : k = i := by omega
      subst e1
      refine zv_go C okX3_sumUnder [] 20 ?_
      refine ⟨fun _ => ?_, fun h => absurd (nI_le (Nat.le_refl _) (by omega)) h⟩
      exact zr R () [0, 1, 2] (some (.int _)) _ rfl rfl trivial rfl rfl (Nat.le_refl _) (Nat.le_refl _) dzX3_sumUnder_43
    | succ mm ih =>
      intro k hk
      have ec : (nI k).toNatClampNeg = k := nI_clamp (by omega)
      have eci : (nI i).toNatClampNeg = i := nI_clamp (by omega)
      obtain ⟨s1, s2⟩ := hS k (by omega)
      obtain ⟨s3, s4⟩ := hS i hi
      refine zv_go C okX3_sumUnder [] 20 ?_
      refine ⟨fun h => absurd h (nI_ge (by omega) (by omega)), fun _ => ⟨rfl, ⟨rfl, rfl⟩, vp_in_nI (by omega) (by omega), rfl, ⟨rfl, rfl⟩, vp_in_nI (by omega) (by omega), ?_⟩⟩
      refine zv_to C rfl (st' := [.int (nI (S i)), .int (nI (S k))]) (by show [Value.int (sf (nI i).toNatClampNeg), Value.int (sf (nI k).toNatClampNeg)] = _; rw [ec, eci, s1, s3]) rfl ?_
      refine zv_callSN C (c_isPart K (p := S k) (s := S i) (by omega)) (zk_SN_in kX3_29) (zw_SN inX8_isPart kX3_29 ⟨by decide, by decide⟩) [] rfl rfl (fun _ => Nat.le_refl _) (rest := []) rfl rfl (Nat.le_of_ble_eq_true rfl) dzX3_sumUnder_21 (by decide) (by decide) rfl (fun _ _ => ?_)
      refine zv_to C rfl rfl (ws' := wU K m s t sf mf cap (nI L)) rfl ?_
      refine zv_go C okX3_sumUnder [4] 20 ?_
      refine ⟨fun h => ?_, fun h => ⟨rfl, ⟨rfl, rfl⟩, vp_in_nI (by omega) (by omega), ?_⟩⟩
      · rw [bI_0, decide_eq_false_iff_not] at h
        refine zv_to C (lv' := [(0, .ref m), (1, .int (nI i)), (2, .int (muSum S mf i (k + 1))), (3, .int (nI (k + 1)))]) ?_ rfl rfl (ih (k + 1) (by omega))
        rw [muSum, if_neg h, ← nI_1]
        rfl
      · rw [bI_1, decide_eq_true_eq] at h
        refine zv_to C (lv' := [(0, .ref m), (1, .int (nI i)), (2, .int (muSum S mf i (k + 1))), (3, .int (nI (k + 1)))]) ?_ rfl rfl (ih (k + 1) (by omega))
        rw [muSum, if_pos h, ← nI_1]
        show [_, _, (2, Value.int (muSum S mf i k + mf (nI k).toNatClampNeg)), _] = _
        rw [ec]
  refine zv_go C okX3_sumUnder [4] 20 ?_
  exact loop i 0 (by omega)
/-- the numbers of the first i sets -/
def muT (S : Nat → Nat) : Nat → (Nat → Int32)
  | 0 => fun _ => 0
  | i + 1 => va_up (muT S i) i (if i = 0 then 1 else - muSum S (muT S i) i i)
theorem muSum_ext {S : Nat → Nat} {f g : Nat → Int32} {i : Nat} : ∀ k, (∀ j, j < k → f j = g j) → muSum S f i k = muSum S g i k
  | 0, _ => rfl
  | k + 1, h => by
    unfold muSum
    rw [muSum_ext k (fun j hj => h j (by omega)), h k (by omega)]
def muR (S : Nat → Nat) (L : Nat) : Int32 := if L = 0 then 0 else muT S L (L - 1)
set_option maxHeartbeats 4000000 in
set_option maxRecDepth 100000 in
theorem c_ofFirst (K : zK) (m s t : Nat) (sf mf : Nat → Int32) (cap L : Nat) (S : Nat → Nat) (hL : L ≤ cap) (h0 : 0 < cap) (hcap : cap ≤ 131072) (hS : ∀ j, j < L → sf j = nI (S j) ∧ S j < 2 ^ 14) :
    zM (S := Nat → Int32) K yX3_ofFirstWithLast cX3_ofFirstWithLast 2 (some .int) (zq 2 0 0 44) [.ref m] (wU K m s t sf mf cap (nI L)) (fun _ => True) (fun _ => some (.int (muR S L))) (fun u => wU K m s t sf u cap (nI L)) := by
  refine zo (by decide) (Nat.le_of_ble_eq_true rfl) fun x C R _ => ?_
  have loop : ∀ mm k (f : Nat → Int32), k + mm = L → 1 ≤ k → (∀ j, j < k → f j = muT S k j) → zv_V x (gz K (zq 2 0 0 44) 2 cX3_ofFirstWithLast yX3_ofFirstWithLast.cls) 18 [(0, .ref m), (1, .int (nI k))] [] (wU K m s t sf f cap (nI L)) 0 0 := by
    intro mm
    induction mm with
    | zero =>
      intro k f hk h1 hf
      have e1 : k = L := by omega
      subst e1
      have ek : nI k - 1 = nI (k - 1) := by
        have e1 : (1 : Int32) = nI 1 := rfl
        rw [e1, pk_sub h1]
      refine zv_go C okX3_ofFirstWithLast [] 20 ?_
      refine ⟨rfl, fun _ => ⟨rfl, rfl, ⟨rfl, rfl⟩, ?_, ?_⟩, fun h => absurd (nI_le (Nat.le_refl _) (by omega)) h⟩
      · show vp_in (nI k - 1) cap
        rw [ek]; exact vp_in_nI (by omega) (by omega)
      · refine zr R f [0, 1, 2] (some (.int _)) _ ?_ rfl trivial rfl rfl (Nat.le_refl _) (Nat.le_refl _) dzX3_ofFirstWithLast_55
        show _ = some (Value.int (f (nI k - 1).toNatClampNeg))
        rw [ek, nI_clamp (by omega), hf (k - 1) (by omega)]
        unfold muR
        rw [if_neg (by omega)]
    | succ mm ih =>
      intro k f hk h1 hf
      have ec : (nI k).toNatClampNeg = k := nI_clamp (by omega)
      refine zv_go C okX3_ofFirstWithLast [] 20 ?_
      refine ⟨rfl, fun h => absurd h (nI_ge (by omega) (by omega)), fun _ => ⟨rfl, ?_⟩⟩
      refine zv_callV C (c_sumUnder K m s t sf f cap L S k (by omega) hL hcap hS) (zw_V inX3_sumUnder kX3_25 ⟨by decide, by decide⟩) [0, 1, 2] 0 rfl rfl rfl rfl (fun _ => Nat.le_refl _) (rest := [.int (nI k), .ref t]) rfl rfl (Nat.le_of_ble_eq_true rfl) dzX3_ofFirstWithLast_33 (by decide) (by decide) rfl (fun _ _ => ?_)
      refine zv_to C rfl rfl (ws' := wU K m s t sf f cap (nI L)) rfl ?_
      refine zv_go C okX3_ofFirstWithLast [18] 20 ?_
      refine ⟨⟨rfl, rfl⟩, vp_in_nI (by omega) (by omega), ?_⟩
      refine zv_to C (lv' := [(0, .ref m), (1, .int (nI (k + 1)))]) (by rw [← nI_1] <;> rfl) rfl (ws' := wU K m s t sf (upd f k (- muSum S f k k)) cap (nI L)) (by show [_, _, (t, Sum.inl (cI K, cap, Sum.inl (upd f (nI k).toNatClampNeg (- muSum S f k k))))] = _; rw [ec]) (ih (k + 1) _ (by omega) (by omega) ?_)
      intro j hj
      show upd f k (- muSum S f k k) j = va_up (muT S k) k (if k = 0 then 1 else - muSum S (muT S k) k k) j
      unfold va_up
      by_cases e1 : j = k
      · rw [e1, pk_us, if_pos rfl, if_neg (by omega), muSum_ext k hf]
      · rw [pk_un e1, if_neg e1]; exact hf j (by omega)
  refine zv_go C okX3_ofFirstWithLast [18] 20 ?_
  refine ⟨rfl, fun h => ⟨rfl, ⟨rfl, rfl⟩, vp_in_nI (n := 0) (by omega) (by omega), ?_⟩, fun h => ?_⟩
  · have h : ¬ nI L = 0 := h
    rw [nb_0 (by omega)] at h
    refine zv_to C (lv' := [(0, .ref m), (1, .int (nI 1))]) rfl rfl rfl (loop (L - 1) 1 _ (by omega) (Nat.le_refl _) ?_)
    intro j hj
    have e1 : j = 0 := by omega
    subst e1
    rfl
  · have h : nI L = 0 := h
    rw [nb_0 (by omega)] at h
    exact zr R mf [0, 1, 2] (some (.int 0)) _ (by unfold muR; rw [if_pos h]) rfl trivial rfl rfl (Nat.le_refl _) (Nat.le_refl _) dzX3_ofFirstWithLast_8
end
section
/-! CONSTRUCTORS -/
theorem zk_oi1 : Jvm.Cond.instanceMethod objectInit ∈ zt := by decide +kernel
set_option maxRecDepth 100000 in
theorem zk_oi2 : Jvm.Cond.code objectInit ⟨#[0xb1]⟩ 1 none ∈ zt := List.mem_filter.mpr ⟨List.mem_append_right _ (List.mem_of_getElem? (i := 22) rfl), rfl⟩
theorem fsX0 : (List.range 4).map (fun j => defaultValue (zv_ty TX0 j)) = [.null, .null, .int 0, .int 0] := by decide +kernel
theorem fsX1 : (List.range 5).map (fun j => defaultValue (zv_ty TX1 j)) = [.null, .null, .null, .int 0, .int 0] := by decide +kernel
theorem fsX2 : (List.range 4).map (fun j => defaultValue (zv_ty TX2 j)) = [.null, .null, .int 0, .int 0] := by decide +kernel
theorem fsX3 : (List.range 3).map (fun j => defaultValue (zv_ty TX3 j)) = [.null, .null, .int 0] := by decide +kernel
theorem fsX4 : (List.range 4).map (fun j => defaultValue (zv_ty TX4 j)) = [.null, .null, .int 0, .int 0] := by decide +kernel
theorem fsX5 : (List.range 4).map (fun j => defaultValue (zv_ty TX5 j)) = [.null, .null, .null, .int 0] := by decide +kernel
theorem fsX6 : (List.range 6).map (fun j => defaultValue (zv_ty TX6 j)) = [.null, .null, .null, .int 0, .int 0, .int 0] := by decide +kernel
theorem fsX7 : (List.range 4).map (fun j => defaultValue (zv_ty TX7 j)) = [.null, .null, .int 0, .int 0] := by decide +kernel
theorem fsX8 : (List.range 7).map (fun j => defaultValue (zv_ty TX8 j)) = [.null, .null, .null, .null, .null, .null, .null] := by decide +kernel
theorem fsX9 : (List.range 10).map (fun j => defaultValue (zv_ty TX9 j)) = [.int 0, .null, .null, .null, .null, .int 0, .null, .null, .null, .null] := by decide +kernel
set_option maxHeartbeats 4000000 in
set_option maxRecDepth 100000 in
theorem c_initX0 (K : zK) (z o : Nat) : zM (S := Nat) K yX0_init cX0_init 2 none (zq 1 1 16 16) [.ref z, .ref o] [(z, .inr (0, [.null, .null, .int 0, .int 0]))] (fun _ => True) (fun _ => none) (fun u => [(z, .inr (0, [.ref o, .ref u, .int 0, .int (-1)])), (u, .inl (cI K, 16, .inl (fun _ => 0)))]) := by
  refine zo (by decide) (Nat.le_of_ble_eq_true rfl) fun x C R hin => ?_
  refine zv_go C okX0_init [] 1 ?_
  refine zv_objInit C (by decide +kernel) zk_oi1 zk_oi2 rfl dzX0_init_1 (by decide) (by decide) rfl ?_
  refine zv_go C okX0_init [] 2 ?_
  refine zv_newa C (atype := .int) 0 0 (N' := 16) (a0 := (16, .inl (fun _ => 0))) rfl zk_arrI rfl (fun _ => rfl) rfl (by decide) (by decide) (by decide) dzX0_init_7 (by decide) (by decide) rfl (fun u => ?_)
  refine zv_go C okX0_init [] 1 ?_
  refine ⟨rfl, ?_⟩
  refine zv_to C rfl rfl (ws' := [(z, .inr (0, [.null, .ref u, .int 0, .int 0])), (u, .inl (cI K, 16, .inl (fun _ => 0)))]) rfl ?_
  refine zv_go C okX0_init [] 3 ?_
  refine ⟨rfl, ?_⟩
  refine zv_to C rfl rfl (ws' := [(z, .inr (0, [.null, .ref u, .int 0, .int (-1)])), (u, .inl (cI K, 16, .inl (fun _ => 0)))]) rfl ?_
  refine zv_go C okX0_init [] 2 ?_
  refine zv_to C rfl rfl (ws' := [(z, .inr (0, [.null, .ref u, .int 0, .int (-1)])), (u, .inl (cI K, 16, .inl (fun _ => 0)))]) rfl ?_
  refine zv_putF C hin 0 0 0 2 (T := TX0) rfl (by decide +kernel) rfl rfl rfl rfl (Nat.le_of_ble_eq_true rfl) dzX0_init_19 rfl ?_
  refine zv_to C rfl rfl (ws' := [(z, .inr (0, [.ref o, .ref u, .int 0, .int (-1)])), (u, .inl (cI K, 16, .inl (fun _ => 0)))]) rfl ?_
  exact zr R u [0, 1] none _ rfl rfl trivial rfl rfl (by decide) (by decide) dzX0_init_22
set_option maxHeartbeats 4000000 in
set_option maxRecDepth 100000 in
theorem c_initX1 (K : zK) (z o : Nat) : zM (S := Nat × Nat) K yX1_init cX1_init 2 none (zq 1 2 28 16) [.ref z, .ref o] [(z, .inr (1, [.null, .null, .null, .int 0, .int 0]))] (fun _ => True) (fun _ => none) (fun u => [(z, .inr (1, [.ref o, .ref u.1, .ref u.2, .int 0, .int (-1)])), (u.1, .inl (cI K, 14, .inl (fun _ => 0))), (u.2, .inl (cI K, 14, .inl (fun _ => 0)))]) := by
  refine zo (by decide) (Nat.le_of_ble_eq_true rfl) fun x C R hin => ?_
  refine zv_go C okX1_init [] 1 ?_
  refine zv_objInit C (by decide +kernel) zk_oi1 zk_oi2 rfl dzX1_init_1 (by decide) (by decide) rfl ?_
  refine zv_go C okX1_init [] 2 ?_
  refine zv_newa C (atype := .int) 0 0 (N' := 14) (a0 := (14, .inl (fun _ => 0))) rfl zk_arrI rfl (fun _ => rfl) rfl (by decide) (by decide) (by decide) dzX1_init_7 (by decide) (by decide) rfl (fun u => ?_)
  refine zv_to C rfl rfl (ws' := [(z, .inr (1, [.null, .null, .null, .int 0, .int 0])), (u, .inl (cI K, 14, .inl (fun _ => 0)))]) rfl ?_
  refine zv_putF C hin 0 1 1 2 (T := TX1) rfl (by decide +kernel) rfl rfl rfl rfl (Nat.le_of_ble_eq_true rfl) dzX1_init_9 rfl ?_
  refine zv_to C rfl rfl (ws' := [(z, .inr (1, [.null, .ref u, .null, .int 0, .int 0])), (u, .inl (cI K, 14, .inl (fun _ => 0)))]) rfl ?_
  refine zv_go C okX1_init [] 2 ?_
  refine zv_newa C (atype := .int) 0 0 (N' := 14) (a0 := (14, .inl (fun _ => 0))) rfl zk_arrI rfl (fun _ => rfl) rfl (by decide) (by decide) (by decide) dzX1_init_15 (by decide) (by decide) rfl (fun w => ?_)
  refine zv_to C rfl rfl (ws' := [(z, .inr (1, [.null, .ref u, .null, .int 0, .int 0])), (u, .inl (cI K, 14, .inl (fun _ => 0))), (w, .inl (cI K, 14, .inl (fun _ => 0)))]) rfl ?_
  refine zv_putF C hin 0 1 2 2 (T := TX1) rfl (by decide +kernel) rfl rfl rfl rfl (Nat.le_of_ble_eq_true rfl) dzX1_init_17 rfl ?_
  refine zv_to C rfl rfl (ws' := [(z, .inr (1, [.null, .ref u, .ref w, .int 0, .int 0])), (u, .inl (cI K, 14, .inl (fun _ => 0))), (w, .inl (cI K, 14, .inl (fun _ => 0)))]) rfl ?_
  refine zv_go C okX1_init [] 3 ?_
  refine ⟨rfl, ?_⟩
  refine zv_to C rfl rfl (ws' := [(z, .inr (1, [.null, .ref u, .ref w, .int 0, .int (-1)])), (u, .inl (cI K, 14, .inl (fun _ => 0))), (w, .inl (cI K, 14, .inl (fun _ => 0)))]) rfl ?_
  refine zv_go C okX1_init [] 2 ?_
  refine zv_to C rfl rfl (ws' := [(z, .inr (1, [.null, .ref u, .ref w, .int 0, .int (-1)])), (u, .inl (cI K, 14, .inl (fun _ => 0))), (w, .inl (cI K, 14, .inl (fun _ => 0)))]) rfl ?_
  refine zv_putF C hin 0 1 0 2 (T := TX1) rfl (by decide +kernel) rfl rfl rfl rfl (Nat.le_of_ble_eq_true rfl) dzX1_init_27 rfl ?_
  refine zv_to C rfl rfl (ws' := [(z, .inr (1, [.ref o, .ref u, .ref w, .int 0, .int (-1)])), (u, .inl (cI K, 14, .inl (fun _ => 0))), (w, .inl (cI K, 14, .inl (fun _ => 0)))]) rfl ?_
  exact zr R (u, w) [0, 1, 2] none _ rfl rfl trivial rfl rfl (by decide) (by decide) dzX1_init_30
set_option maxHeartbeats 4000000 in
set_option maxRecDepth 100000 in
theorem c_initX2 (K : zK) (z o : Nat) : zM (S := Nat) K yX2_init cX2_init 2 none (zq 1 1 14 16) [.ref z, .ref o] [(z, .inr (2, [.null, .null, .int 0, .int 0]))] (fun _ => True) (fun _ => none) (fun u => [(z, .inr (2, [.ref o, .ref u, .int 0, .int 0])), (u, .inl (cI K, 14, .inl (fun _ => 0)))]) := by
  refine zo (by decide) (Nat.le_of_ble_eq_true rfl) fun x C R hin => ?_
  refine zv_go C okX2_init [] 1 ?_
  refine zv_objInit C (by decide +kernel) zk_oi1 zk_oi2 rfl dzX2_init_1 (by decide) (by decide) rfl ?_
  refine zv_go C okX2_init [] 2 ?_
  refine zv_newa C (atype := .int) 0 0 (N' := 14) (a0 := (14, .inl (fun _ => 0))) rfl zk_arrI rfl (fun _ => rfl) rfl (by decide) (by decide) (by decide) dzX2_init_7 (by decide) (by decide) rfl (fun u => ?_)
  refine zv_to C rfl rfl (ws' := [(z, .inr (2, [.null, .null, .int 0, .int 0])), (u, .inl (cI K, 14, .inl (fun _ => 0)))]) rfl ?_
  refine zv_putF C hin 0 2 1 2 (T := TX2) rfl (by decide +kernel) rfl rfl rfl rfl (Nat.le_of_ble_eq_true rfl) dzX2_init_9 rfl ?_
  refine zv_to C rfl rfl (ws' := [(z, .inr (2, [.null, .ref u, .int 0, .int 0])), (u, .inl (cI K, 14, .inl (fun _ => 0)))]) rfl ?_
  refine zv_go C okX2_init [] 2 ?_
  refine zv_to C rfl rfl (ws' := [(z, .inr (2, [.null, .ref u, .int 0, .int 0])), (u, .inl (cI K, 14, .inl (fun _ => 0)))]) rfl ?_
  refine zv_putF C hin 0 2 0 2 (T := TX2) rfl (by decide +kernel) rfl rfl rfl rfl (Nat.le_of_ble_eq_true rfl) dzX2_init_14 rfl ?_
  refine zv_to C rfl rfl (ws' := [(z, .inr (2, [.ref o, .ref u, .int 0, .int 0])), (u, .inl (cI K, 14, .inl (fun _ => 0)))]) rfl ?_
  exact zr R u [0, 1] none _ rfl rfl trivial rfl rfl (by decide) (by decide) dzX2_init_17
set_option maxHeartbeats 4000000 in
set_option maxRecDepth 100000 in
theorem c_initX3 (K : zK) (z : Nat) : zM (S := Nat × Nat) K yX3_init cX3_init 1 none (zq 1 2 32 16) [.ref z] [(z, .inr (3, [.null, .null, .int 0]))] (fun _ => True) (fun _ => none) (fun u => [(z, .inr (3, [.ref u.1, .ref u.2, .int 0])), (u.1, .inl (cI K, 16, .inl (fun _ => 0))), (u.2, .inl (cI K, 16, .inl (fun _ => 0)))]) := by
  refine zo (by decide) (Nat.le_of_ble_eq_true rfl) fun x C R hin => ?_
  refine zv_go C okX3_init [] 1 ?_
  refine zv_objInit C (by decide +kernel) zk_oi1 zk_oi2 rfl dzX3_init_1 (by decide) (by decide) rfl ?_
  refine zv_go C okX3_init [] 2 ?_
  refine zv_newa C (atype := .int) 0 0 (N' := 16) (a0 := (16, .inl (fun _ => 0))) rfl zk_arrI rfl (fun _ => rfl) rfl (by decide) (by decide) (by decide) dzX3_init_7 (by decide) (by decide) rfl (fun u => ?_)
  refine zv_go C okX3_init [] 1 ?_
  refine ⟨rfl, ?_⟩
  refine zv_to C rfl rfl (ws' := [(z, .inr (3, [.ref u, .null, .int 0])), (u, .inl (cI K, 16, .inl (fun _ => 0)))]) rfl ?_
  refine zv_go C okX3_init [] 2 ?_
  refine zv_newa C (atype := .int) 0 0 (N' := 16) (a0 := (16, .inl (fun _ => 0))) rfl zk_arrI rfl (fun _ => rfl) rfl (by decide) (by decide) (by decide) dzX3_init_15 (by decide) (by decide) rfl (fun w => ?_)
  refine zv_go C okX3_init [] 1 ?_
  refine ⟨rfl, ?_⟩
  refine zv_to C rfl rfl (ws' := [(z, .inr (3, [.ref u, .ref w, .int 0])), (u, .inl (cI K, 16, .inl (fun _ => 0))), (w, .inl (cI K, 16, .inl (fun _ => 0)))]) rfl ?_
  exact zr R (u, w) [0, 1, 2] none _ rfl rfl trivial rfl rfl (by decide) (by decide) dzX3_init_20
set_option maxHeartbeats 4000000 in
set_option maxRecDepth 100000 in
theorem c_initX4 (K : zK) (z : Nat) : zM (S := Nat × Nat) K yX4_init cX4_init 1 none (zq 1 2 28 16) [.ref z] [(z, .inr (4, [.null, .null, .int 0, .int 0]))] (fun _ => True) (fun _ => none) (fun u => [(z, .inr (4, [.ref u.1, .ref u.2, .int 1, .int 0])), (u.1, .inl (cI K, 14, .inl (fun _ => 0))), (u.2, .inl (cI K, 14, .inl (fun _ => 0)))]) := by
  refine zo (by decide) (Nat.le_of_ble_eq_true rfl) fun x C R hin => ?_
  refine zv_go C okX4_init [] 1 ?_
  refine zv_objInit C (by decide +kernel) zk_oi1 zk_oi2 rfl dzX4_init_1 (by decide) (by decide) rfl ?_
  refine zv_go C okX4_init [] 2 ?_
  refine zv_newa C (atype := .int) 0 0 (N' := 14) (a0 := (14, .inl (fun _ => 0))) rfl zk_arrI rfl (fun _ => rfl) rfl (by decide) (by decide) (by decide) dzX4_init_7 (by decide) (by decide) rfl (fun u => ?_)
  refine zv_to C rfl rfl (ws' := [(z, .inr (4, [.null, .null, .int 0, .int 0])), (u, .inl (cI K, 14, .inl (fun _ => 0)))]) rfl ?_
  refine zv_putF C hin 0 4 0 2 (T := TX4) rfl (by decide +kernel) rfl rfl rfl rfl (Nat.le_of_ble_eq_true rfl) dzX4_init_9 rfl ?_
  refine zv_to C rfl rfl (ws' := [(z, .inr (4, [.ref u, .null, .int 0, .int 0])), (u, .inl (cI K, 14, .inl (fun _ => 0)))]) rfl ?_
  refine zv_go C okX4_init [] 2 ?_
  refine zv_newa C (atype := .int) 0 0 (N' := 14) (a0 := (14, .inl (fun _ => 0))) rfl zk_arrI rfl (fun _ => rfl) rfl (by decide) (by decide) (by decide) dzX4_init_15 (by decide) (by decide) rfl (fun w => ?_)
  refine zv_to C rfl rfl (ws' := [(z, .inr (4, [.ref u, .null, .int 0, .int 0])), (u, .inl (cI K, 14, .inl (fun _ => 0))), (w, .inl (cI K, 14, .inl (fun _ => 0)))]) rfl ?_
  refine zv_putF C hin 0 4 1 2 (T := TX4) rfl (by decide +kernel) rfl rfl rfl rfl (Nat.le_of_ble_eq_true rfl) dzX4_init_17 rfl ?_
  refine zv_to C rfl rfl (ws' := [(z, .inr (4, [.ref u, .ref w, .int 0, .int 0])), (u, .inl (cI K, 14, .inl (fun _ => 0))), (w, .inl (cI K, 14, .inl (fun _ => 0)))]) rfl ?_
  refine zv_go C okX4_init [] 3 ?_
  refine ⟨rfl, ?_⟩
  refine zv_to C rfl rfl (ws' := [(z, .inr (4, [.ref u, .ref w, .int 1, .int 0])), (u, .inl (cI K, 14, .inl (fun _ => 0))), (w, .inl (cI K, 14, .inl (fun _ => 0)))]) rfl ?_
  refine zv_go C okX4_init [] 3 ?_
  refine ⟨rfl, ?_⟩
  refine zv_to C rfl rfl (ws' := [(z, .inr (4, [.ref u, .ref w, .int 1, .int 0])), (u, .inl (cI K, 14, .inl (fun _ => 0))), (w, .inl (cI K, 14, .inl (fun _ => 0)))]) rfl ?_
  exact zr R (u, w) [0, 1, 2] none _ rfl rfl trivial rfl rfl (by decide) (by decide) dzX4_init_30
set_option maxHeartbeats 4000000 in
set_option maxRecDepth 100000 in
theorem c_initX5 (K : zK) (z o m : Nat) : zM (S := Nat) K yX5_init cX5_init 3 none (zq 1 1 14 16) [.ref z, .ref o, .ref m] [(z, .inr (5, [.null, .null, .null, .int 0]))] (fun _ => True) (fun _ => none) (fun u => [(z, .inr (5, [.ref o, .ref m, .ref u, .int (-1)])), (u, .inl (cI K, 14, .inl (fun _ => 0)))]) := by
  refine zo (by decide) (Nat.le_of_ble_eq_true rfl) fun x C R hin => ?_
  refine zv_go C okX5_init [] 1 ?_
  refine zv_objInit C (by decide +kernel) zk_oi1 zk_oi2 rfl dzX5_init_1 (by decide) (by decide) rfl ?_
  refine zv_go C okX5_init [] 2 ?_
  refine zv_newa C (atype := .int) 0 0 (N' := 14) (a0 := (14, .inl (fun _ => 0))) rfl zk_arrI rfl (fun _ => rfl) rfl (by decide) (by decide) (by decide) dzX5_init_7 (by decide) (by decide) rfl (fun u => ?_)
  refine zv_to C rfl rfl (ws' := [(z, .inr (5, [.null, .null, .null, .int 0])), (u, .inl (cI K, 14, .inl (fun _ => 0)))]) rfl ?_
  refine zv_putF C hin 0 5 2 2 (T := TX5) rfl (by decide +kernel) rfl rfl rfl rfl (Nat.le_of_ble_eq_true rfl) dzX5_init_9 rfl ?_
  refine zv_to C rfl rfl (ws' := [(z, .inr (5, [.null, .null, .ref u, .int 0])), (u, .inl (cI K, 14, .inl (fun _ => 0)))]) rfl ?_
  refine zv_go C okX5_init [] 3 ?_
  refine ⟨rfl, ?_⟩
  refine zv_to C rfl rfl (ws' := [(z, .inr (5, [.null, .null, .ref u, .int (-1)])), (u, .inl (cI K, 14, .inl (fun _ => 0)))]) rfl ?_
  refine zv_go C okX5_init [] 2 ?_
  refine zv_to C rfl rfl (ws' := [(z, .inr (5, [.null, .null, .ref u, .int (-1)])), (u, .inl (cI K, 14, .inl (fun _ => 0)))]) rfl ?_
  refine zv_putF C hin 0 5 0 2 (T := TX5) rfl (by decide +kernel) rfl rfl rfl rfl (Nat.le_of_ble_eq_true rfl) dzX5_init_19 rfl ?_
  refine zv_to C rfl rfl (ws' := [(z, .inr (5, [.ref o, .null, .ref u, .int (-1)])), (u, .inl (cI K, 14, .inl (fun _ => 0)))]) rfl ?_
  refine zv_go C okX5_init [] 2 ?_
  refine zv_to C rfl rfl (ws' := [(z, .inr (5, [.ref o, .null, .ref u, .int (-1)])), (u, .inl (cI K, 14, .inl (fun _ => 0)))]) rfl ?_
  refine zv_putF C hin 0 5 1 2 (T := TX5) rfl (by decide +kernel) rfl rfl rfl rfl (Nat.le_of_ble_eq_true rfl) dzX5_init_24 rfl ?_
  refine zv_to C rfl rfl (ws' := [(z, .inr (5, [.ref o, .ref m, .ref u, .int (-1)])), (u, .inl (cI K, 14, .inl (fun _ => 0)))]) rfl ?_
  exact zr R u [0, 1] none _ rfl rfl trivial rfl rfl (by decide) (by decide) dzX5_init_27
set_option maxHeartbeats 4000000 in
set_option maxRecDepth 100000 in
theorem c_initX6 (K : zK) (z o : Nat) : zM (S := Nat × Nat) K yX6_init cX6_init 2 none (zq 1 2 32 16) [.ref z, .ref o] [(z, .inr (6, [.null, .null, .null, .int 0, .int 0, .int 0]))] (fun _ => True) (fun _ => none) (fun u => [(z, .inr (6, [.ref o, .ref u.1, .ref u.2, .int 0, .int (-1), .int (-1)])), (u.1, .inl (cJ K, 16, .inr (.inl (fun _ => 0)))), (u.2, .inl (cJ K, 16, .inr (.inl (fun _ => 0))))]) := by
  refine zo (by decide) (Nat.le_of_ble_eq_true rfl) fun x C R hin => ?_
  refine zv_go C okX6_init [] 1 ?_
  refine zv_objInit C (by decide +kernel) zk_oi1 zk_oi2 rfl dzX6_init_1 (by decide) (by decide) rfl ?_
  refine zv_go C okX6_init [] 2 ?_
  refine zv_newa C (atype := .long) 1 1 (N' := 16) (a0 := (16, .inr (.inl (fun _ => 0)))) rfl zk_arrJ rfl (fun _ => rfl) rfl (by decide) (by decide) (by decide) dzX6_init_7 (by decide) (by decide) rfl (fun u => ?_)
  refine zv_go C okX6_init [] 1 ?_
  refine ⟨rfl, ?_⟩
  refine zv_to C rfl rfl (ws' := [(z, .inr (6, [.null, .ref u, .null, .int 0, .int 0, .int 0])), (u, .inl (cJ K, 16, .inr (.inl (fun _ => 0))))]) rfl ?_
  refine zv_go C okX6_init [] 2 ?_
  refine zv_newa C (atype := .long) 1 1 (N' := 16) (a0 := (16, .inr (.inl (fun _ => 0)))) rfl zk_arrJ rfl (fun _ => rfl) rfl (by decide) (by decide) (by decide) dzX6_init_15 (by decide) (by decide) rfl (fun w => ?_)
  refine zv_go C okX6_init [] 1 ?_
  refine ⟨rfl, ?_⟩
  refine zv_to C rfl rfl (ws' := [(z, .inr (6, [.null, .ref u, .ref w, .int 0, .int 0, .int 0])), (u, .inl (cJ K, 16, .inr (.inl (fun _ => 0)))), (w, .inl (cJ K, 16, .inr (.inl (fun _ => 0))))]) rfl ?_
  refine zv_go C okX6_init [] 3 ?_
  refine ⟨rfl, ?_⟩
  refine zv_to C rfl rfl (ws' := [(z, .inr (6, [.null, .ref u, .ref w, .int 0, .int (-1), .int 0])), (u, .inl (cJ K, 16, .inr (.inl (fun _ => 0)))), (w, .inl (cJ K, 16, .inr (.inl (fun _ => 0))))]) rfl ?_
  refine zv_go C okX6_init [] 3 ?_
  refine ⟨rfl, ?_⟩
  refine zv_to C rfl rfl (ws' := [(z, .inr (6, [.null, .ref u, .ref w, .int 0, .int (-1), .int (-1)])), (u, .inl (cJ K, 16, .inr (.inl (fun _ => 0)))), (w, .inl (cJ K, 16, .inr (.inl (fun _ => 0))))]) rfl ?_
  refine zv_go C okX6_init [] 2 ?_
  refine zv_to C rfl rfl (ws' := [(z, .inr (6, [.null, .ref u, .ref w, .int 0, .int (-1), .int (-1)])), (u, .inl (cJ K, 16, .inr (.inl (fun _ => 0)))), (w, .inl (cJ K, 16, .inr (.inl (fun _ => 0))))]) rfl ?_
  refine zv_putF C hin 0 6 0 2 (T := TX6) rfl (by decide +kernel) rfl rfl rfl rfl (Nat.le_of_ble_eq_true rfl) dzX6_init_32 rfl ?_
  refine zv_to C rfl rfl (ws' := [(z, .inr (6, [.ref o, .ref u, .ref w, .int 0, .int (-1), .int (-1)])), (u, .inl (cJ K, 16, .inr (.inl (fun _ => 0)))), (w, .inl (cJ K, 16, .inr (.inl (fun _ => 0))))]) rfl ?_
  exact zr R (u, w) [0, 1, 2] none _ rfl rfl trivial rfl rfl (by decide) (by decide) dzX6_init_35
set_option maxHeartbeats 4000000 in
set_option maxRecDepth 100000 in
theorem c_initX7 (K : zK) (z o m : Nat) : zM (S := Unit) K yX7_init cX7_init 3 none (zq 1 0 0 16) [.ref z, .ref o, .ref m] [(z, .inr (7, [.null, .null, .int 0, .int 0]))] (fun _ => True) (fun _ => none) (fun u => [(z, .inr (7, [.ref o, .ref m, .int 0, .int (-1)]))]) := by
  refine zo (by decide) (Nat.le_of_ble_eq_true rfl) fun x C R hin => ?_
  refine zv_go C okX7_init [] 1 ?_
  refine zv_objInit C (by decide +kernel) zk_oi1 zk_oi2 rfl dzX7_init_1 (by decide) (by decide) rfl ?_
  refine zv_go C okX7_init [] 3 ?_
  refine ⟨rfl, ?_⟩
  refine zv_to C rfl rfl (ws' := [(z, .inr (7, [.null, .null, .int 0, .int (-1)]))]) rfl ?_
  refine zv_go C okX7_init [] 2 ?_
  refine zv_to C rfl rfl (ws' := [(z, .inr (7, [.null, .null, .int 0, .int (-1)]))]) rfl ?_
  refine zv_putF C hin 0 7 0 2 (T := TX7) rfl (by decide +kernel) rfl rfl rfl rfl (Nat.le_of_ble_eq_true rfl) dzX7_init_11 rfl ?_
  refine zv_to C rfl rfl (ws' := [(z, .inr (7, [.ref o, .null, .int 0, .int (-1)]))]) rfl ?_
  refine zv_go C okX7_init [] 2 ?_
  refine zv_to C rfl rfl (ws' := [(z, .inr (7, [.ref o, .null, .int 0, .int (-1)]))]) rfl ?_
  refine zv_putF C hin 0 7 1 2 (T := TX7) rfl (by decide +kernel) rfl rfl rfl rfl (Nat.le_of_ble_eq_true rfl) dzX7_init_16 rfl ?_
  refine zv_to C rfl rfl (ws' := [(z, .inr (7, [.ref o, .ref m, .int 0, .int (-1)]))]) rfl ?_
  exact zr R () [0] none _ rfl rfl trivial rfl rfl (by decide) (by decide) dzX7_init_19
end
section
def tbX8_init : List zv_I := [(0, .aload_n 0, 1, (0, 0, 0, 0, 0, 0)), (1, .invokespecial 1, 4, (0, 0, 0, 0, 0, 0)), (4, .aload_n 0, 5, (0, 0, 0, 0, 0, 0)), (5, .new 7, 8, (0, 0, 0, 0, 0, 0)), (8, .dup, 9, (0, 0, 0, 0, 0, 0)), (9, .invokespecial 9, 12, (0, 0, 0, 0, 0, 0)), (15, .new 16, 18, (0, 0, 0, 0, 0, 0)), (18, .dup, 19, (0, 0, 0, 0, 0, 0)), (19, .aload_n 0, 20, (0, 0, 0, 0, 0, 0)), (20, .getfield 10, 23, (0, 8, 0, 0, 0, 0)), (23, .invokespecial 18, 26, (0, 0, 0, 0, 0, 0)), (26, .astore_n 1, 27, (0, 0, 0, 0, 0, 0)), (27, .aload_n 0, 28, (0, 0, 0, 0, 0, 0)), (28, .new 21, 31, (0, 0, 0, 0, 0, 0)), (31, .dup, 32, (0, 0, 0, 0, 0, 0)), (32, .aload_n 0, 33, (0, 0, 0, 0, 0, 0)), (33, .getfield 10, 36, (0, 8, 0, 0, 0, 0)), (36, .invokespecial 23, 39, (0, 0, 0, 0, 0, 0)), (42, .aload_n 0, 43, (0, 0, 0, 0, 0, 0)), (43, .new 28, 46, (0, 0, 0, 0, 0, 0)), (46, .dup, 47, (0, 0, 0, 0, 0, 0)), (47, .aload_n 0, 48, (0, 0, 0, 0, 0, 0)), (48, .getfield 10, 51, (0, 8, 0, 0, 0, 0)), (51, .aload_n 1, 52, (0, 0, 0, 0, 0, 0)), (52, .invokespecial 30, 55, (0, 0, 0, 0, 0, 0)), (58, .aload_n 0, 59, (0, 0, 0, 0, 0, 0)), (59, .new 37, 62, (0, 0, 0, 0, 0, 0)), (62, .dup, 63, (0, 0, 0, 0, 0, 0)), (63, .aload_n 0, 64, (0, 0, 0, 0, 0, 0)), (64, .getfield 10, 67, (0, 8, 0, 0, 0, 0)), (67, .aload_n 1, 68, (0, 0, 0, 0, 0, 0)), (68, .invokespecial 39, 71, (0, 0, 0, 0, 0, 0)), (74, .aload_n 0, 75, (0, 0, 0, 0, 0, 0)), (75, .new 44, 78, (0, 0, 0, 0, 0, 0)), (78, .dup, 79, (0, 0, 0, 0, 0, 0)), (79, .aload_n 0, 80, (0, 0, 0, 0, 0, 0)), (80, .getfield 10, 83, (0, 8, 0, 0, 0, 0)), (83, .invokespecial 46, 86, (0, 0, 0, 0, 0, 0)), (89, .aload_n 0, 90, (0, 0, 0, 0, 0, 0)), (90, .new 51, 93, (0, 0, 0, 0, 0, 0)), (93, .dup, 94, (0, 0, 0, 0, 0, 0)), (94, .aload_n 0, 95, (0, 0, 0, 0, 0, 0)), (95, .getfield 10, 98, (0, 8, 0, 0, 0, 0)), (98, .invokespecial 53, 101, (0, 0, 0, 0, 0, 0)), (104, .aload_n 0, 105, (0, 0, 0, 0, 0, 0)), (105, .new 58, 108, (0, 0, 0, 0, 0, 0)), (108, .dup, 109, (0, 0, 0, 0, 0, 0)), (109, .invokespecial 60, 112, (0, 0, 0, 0, 0, 0)), (115, .return_, 116, (0, 0, 0, 0, 0, 0))]
theorem okX8_init : zv_ok 2 cX8_init RX8 zt vwCl tbX8_init = true := by decide +kernel
theorem dzX8_init_1 : decode cX8_init 1 = .ok (.invokespecial 1, 3) := by decide +kernel
theorem dzX8_init_5 : decode cX8_init 5 = .ok (.new 7, 3) := by decide +kernel
theorem dzX8_init_9 : decode cX8_init 9 = .ok (.invokespecial 9, 3) := by decide +kernel
theorem dzX8_init_12 : decode cX8_init 12 = .ok (.putfield 10, 3) := by decide +kernel
theorem dzX8_init_15 : decode cX8_init 15 = .ok (.new 16, 3) := by decide +kernel
theorem dzX8_init_23 : decode cX8_init 23 = .ok (.invokespecial 18, 3) := by decide +kernel
theorem dzX8_init_28 : decode cX8_init 28 = .ok (.new 21, 3) := by decide +kernel
theorem dzX8_init_36 : decode cX8_init 36 = .ok (.invokespecial 23, 3) := by decide +kernel
theorem dzX8_init_39 : decode cX8_init 39 = .ok (.putfield 24, 3) := by decide +kernel
theorem dzX8_init_43 : decode cX8_init 43 = .ok (.new 28, 3) := by decide +kernel
theorem dzX8_init_52 : decode cX8_init 52 = .ok (.invokespecial 30, 3) := by decide +kernel
theorem dzX8_init_55 : decode cX8_init 55 = .ok (.putfield 33, 3) := by decide +kernel
theorem dzX8_init_59 : decode cX8_init 59 = .ok (.new 37, 3) := by decide +kernel
theorem dzX8_init_68 : decode cX8_init 68 = .ok (.invokespecial 39, 3) := by decide +kernel
theorem dzX8_init_71 : decode cX8_init 71 = .ok (.putfield 40, 3) := by decide +kernel
theorem dzX8_init_75 : decode cX8_init 75 = .ok (.new 44, 3) := by decide +kernel
theorem dzX8_init_83 : decode cX8_init 83 = .ok (.invokespecial 46, 3) := by decide +kernel
theorem dzX8_init_86 : decode cX8_init 86 = .ok (.putfield 47, 3) := by decide +kernel
theorem dzX8_init_90 : decode cX8_init 90 = .ok (.new 51, 3) := by decide +kernel
theorem dzX8_init_98 : decode cX8_init 98 = .ok (.invokespecial 53, 3) := by decide +kernel
theorem dzX8_init_101 : decode cX8_init 101 = .ok (.putfield 54, 3) := by decide +kernel
theorem dzX8_init_105 : decode cX8_init 105 = .ok (.new 58, 3) := by decide +kernel
theorem dzX8_init_109 : decode cX8_init 109 = .ok (.invokespecial 60, 3) := by decide +kernel
theorem dzX8_init_112 : decode cX8_init 112 = .ok (.putfield 61, 3) := by decide +kernel
theorem dzX8_init_115 : decode cX8_init 115 = .ok (.return_, 1) := by decide +kernel
set_option maxRecDepth 100000 in
theorem inX8_init : Jvm.Cond.code yX8_init cX8_init 2 none ∈ zt := List.mem_filter.mpr ⟨List.mem_append_right _ (List.mem_of_getElem? (i := 19) rfl), rfl⟩
def tbX8_begin : List zv_I := [(0, .iload_n 1, 1, (0, 0, 0, 0, 0, 0)), (1, .iconst 1, 2, (0, 0, 0, 0, 1, 0)), (2, .if_icmp .lt 9, 5, (11, 0, 0, 0, 0, 0)), (5, .iload_n 1, 6, (0, 0, 0, 0, 0, 0)), (6, .bipush 14, 8, (0, 0, 0, 0, 14, 0)), (8, .if_icmp .le 5, 11, (13, 0, 0, 0, 0, 0)), (11, .iconst (-1), 12, (0, 0, 0, 0, (-1), 0)), (12, .ireturn, 13, (0, 0, 0, 0, 0, 0)), (13, .aload_n 0, 14, (0, 0, 0, 0, 0, 0)), (14, .getfield 10, 17, (0, 8, 0, 0, 0, 0)), (17, .iload_n 1, 18, (0, 0, 0, 0, 0, 0)), (18, .invokevirtual 65, 21, (0, 0, 0, 0, 0, 0)), (21, .iload_n 1, 22, (0, 0, 0, 0, 0, 0)), (22, .ireturn, 23, (0, 0, 0, 0, 0, 0))]
theorem okX8_begin : zv_ok 2 cX8_begin RX8 zt vwCl tbX8_begin = true := by decide +kernel
theorem dzX8_begin_12 : decode cX8_begin 12 = .ok (.ireturn, 1) := by decide +kernel
theorem dzX8_begin_18 : decode cX8_begin 18 = .ok (.invokevirtual 65, 3) := by decide +kernel
theorem dzX8_begin_22 : decode cX8_begin 22 = .ok (.ireturn, 1) := by decide +kernel
set_option maxRecDepth 100000 in
theorem inX8_begin : Jvm.Cond.code yX8_begin cX8_begin 2 ((some .int)) ∈ zt := List.mem_filter.mpr ⟨List.mem_append_right _ (List.mem_of_getElem? (i := 226) rfl), rfl⟩
def tbX8_put : List zv_I := [(0, .aload_n 0, 1, (0, 0, 0, 0, 0, 0)), (1, .getfield 10, 4, (0, 8, 0, 0, 0, 0)), (4, .iload_n 1, 5, (0, 0, 0, 0, 0, 0)), (5, .invokevirtual 69, 8, (0, 0, 0, 0, 0, 0)), (8, .ifCond .eq 31, 11, (39, 0, 0, 0, 0, 0)), (11, .aload_n 0, 12, (0, 0, 0, 0, 0, 0)), (12, .getfield 10, 15, (0, 8, 0, 0, 0, 0)), (15, .iload_n 2, 16, (0, 0, 0, 0, 0, 0)), (16, .invokevirtual 69, 19, (0, 0, 0, 0, 0, 0)), (19, .ifCond .eq 20, 22, (39, 0, 0, 0, 0, 0)), (22, .iload_n 1, 23, (0, 0, 0, 0, 0, 0)), (23, .iload_n 2, 24, (0, 0, 0, 0, 0, 0)), (24, .if_icmp .eq 15, 27, (39, 0, 0, 0, 0, 0)), (27, .aload_n 0, 28, (0, 0, 0, 0, 0, 0)), (28, .getfield 10, 31, (0, 8, 0, 0, 0, 0)), (31, .iload_n 2, 32, (0, 0, 0, 0, 0, 0)), (32, .iload_n 1, 33, (0, 0, 0, 0, 0, 0)), (33, .invokevirtual 73, 36, (0, 0, 0, 0, 0, 0)), (36, .ifCond .eq 5, 39, (41, 0, 0, 0, 0, 0)), (39, .iconst (-1), 40, (0, 0, 0, 0, (-1), 0)), (40, .ireturn, 41, (0, 0, 0, 0, 0, 0)), (41, .aload_n 0, 42, (0, 0, 0, 0, 0, 0)), (42, .getfield 10, 45, (0, 8, 0, 0, 0, 0)), (45, .iload_n 1, 46, (0, 0, 0, 0, 0, 0)), (46, .iload_n 2, 47, (0, 0, 0, 0, 0, 0)), (47, .invokevirtual 77, 50, (0, 0, 0, 0, 0, 0)), (50, .ireturn, 51, (0, 0, 0, 0, 0, 0))]
theorem okX8_put : zv_ok 3 cX8_put RX8 zt vwCl tbX8_put = true := by decide +kernel
theorem dzX8_put_5 : decode cX8_put 5 = .ok (.invokevirtual 69, 3) := by decide +kernel
theorem dzX8_put_16 : decode cX8_put 16 = .ok (.invokevirtual 69, 3) := by decide +kernel
theorem dzX8_put_33 : decode cX8_put 33 = .ok (.invokevirtual 73, 3) := by decide +kernel
theorem dzX8_put_40 : decode cX8_put 40 = .ok (.ireturn, 1) := by decide +kernel
theorem dzX8_put_47 : decode cX8_put 47 = .ok (.invokevirtual 77, 3) := by decide +kernel
theorem dzX8_put_50 : decode cX8_put 50 = .ok (.ireturn, 1) := by decide +kernel
set_option maxRecDepth 100000 in
theorem inX8_put : Jvm.Cond.code yX8_put cX8_put 3 ((some .int)) ∈ zt := List.mem_filter.mpr ⟨List.mem_append_right _ (List.mem_of_getElem? (i := 234) rfl), rfl⟩
def tbX8_free : List zv_I := [(0, .aload_n 0, 1, (0, 0, 0, 0, 0, 0)), (1, .getfield 10, 4, (0, 8, 0, 0, 0, 0)), (4, .iload_n 1, 5, (0, 0, 0, 0, 0, 0)), (5, .invokevirtual 69, 8, (0, 0, 0, 0, 0, 0)), (8, .ifCond .eq 14, 11, (22, 0, 0, 0, 0, 0)), (11, .aload_n 0, 12, (0, 0, 0, 0, 0, 0)), (12, .getfield 10, 15, (0, 8, 0, 0, 0, 0)), (15, .iload_n 1, 16, (0, 0, 0, 0, 0, 0)), (16, .invokevirtual 81, 19, (0, 0, 0, 0, 0, 0)), (19, .goto 4, 22, (23, 0, 0, 0, 0, 0)), (22, .iconst (-1), 23, (0, 0, 0, 0, (-1), 0)), (23, .ireturn, 24, (0, 0, 0, 0, 0, 0))]
theorem okX8_free : zv_ok 2 cX8_free RX8 zt vwCl tbX8_free = true := by decide +kernel
theorem dzX8_free_5 : decode cX8_free 5 = .ok (.invokevirtual 69, 3) := by decide +kernel
theorem dzX8_free_16 : decode cX8_free 16 = .ok (.invokevirtual 81, 3) := by decide +kernel
theorem dzX8_free_23 : decode cX8_free 23 = .ok (.ireturn, 1) := by decide +kernel
set_option maxRecDepth 100000 in
theorem inX8_free : Jvm.Cond.code yX8_free cX8_free 2 ((some .int)) ∈ zt := List.mem_filter.mpr ⟨List.mem_append_right _ (List.mem_of_getElem? (i := 268) rfl), rfl⟩
def tbX8_isBelow : List zv_I := [(0, .aload_n 0, 1, (0, 0, 0, 0, 0, 0)), (1, .getfield 10, 4, (0, 8, 0, 0, 0, 0)), (4, .iload_n 1, 5, (0, 0, 0, 0, 0, 0)), (5, .invokevirtual 69, 8, (0, 0, 0, 0, 0, 0)), (8, .ifCond .eq 30, 11, (38, 0, 0, 0, 0, 0)), (11, .aload_n 0, 12, (0, 0, 0, 0, 0, 0)), (12, .getfield 10, 15, (0, 8, 0, 0, 0, 0)), (15, .iload_n 2, 16, (0, 0, 0, 0, 0, 0)), (16, .invokevirtual 69, 19, (0, 0, 0, 0, 0, 0)), (19, .ifCond .eq 19, 22, (38, 0, 0, 0, 0, 0)), (22, .aload_n 0, 23, (0, 0, 0, 0, 0, 0)), (23, .getfield 10, 26, (0, 8, 0, 0, 0, 0)), (26, .iload_n 1, 27, (0, 0, 0, 0, 0, 0)), (27, .iload_n 2, 28, (0, 0, 0, 0, 0, 0)), (28, .invokevirtual 73, 31, (0, 0, 0, 0, 0, 0)), (31, .ifCond .eq 7, 34, (38, 0, 0, 0, 0, 0)), (34, .iconst 1, 35, (0, 0, 0, 0, 1, 0)), (35, .goto 4, 38, (39, 0, 0, 0, 0, 0)), (38, .iconst 0, 39, (0, 0, 0, 0, 0, 0)), (39, .ireturn, 40, (0, 0, 0, 0, 0, 0))]
theorem okX8_isBelow : zv_ok 3 cX8_isBelow RX8 zt vwCl tbX8_isBelow = true := by decide +kernel
theorem dzX8_isBelow_5 : decode cX8_isBelow 5 = .ok (.invokevirtual 69, 3) := by decide +kernel
theorem dzX8_isBelow_16 : decode cX8_isBelow 16 = .ok (.invokevirtual 69, 3) := by decide +kernel
theorem dzX8_isBelow_28 : decode cX8_isBelow 28 = .ok (.invokevirtual 73, 3) := by decide +kernel
theorem dzX8_isBelow_39 : decode cX8_isBelow 39 = .ok (.ireturn, 1) := by decide +kernel
set_option maxRecDepth 100000 in
theorem inX8_isBelow : Jvm.Cond.code yX8_isBelow cX8_isBelow 3 ((some .boolean)) ∈ zt := List.mem_filter.mpr ⟨List.mem_append_right _ (List.mem_of_getElem? (i := 276) rfl), rfl⟩
def tbX8_covers : List zv_I := [(0, .aload_n 0, 1, (0, 0, 0, 0, 0, 0)), (1, .getfield 10, 4, (0, 8, 0, 0, 0, 0)), (4, .iload_n 1, 5, (0, 0, 0, 0, 0, 0)), (5, .invokevirtual 69, 8, (0, 0, 0, 0, 0, 0)), (8, .ifCond .eq 14, 11, (22, 0, 0, 0, 0, 0)), (11, .aload_n 0, 12, (0, 0, 0, 0, 0, 0)), (12, .getfield 10, 15, (0, 8, 0, 0, 0, 0)), (15, .iload_n 1, 16, (0, 0, 0, 0, 0, 0)), (16, .invokevirtual 85, 19, (0, 0, 0, 0, 0, 0)), (19, .goto 4, 22, (23, 0, 0, 0, 0, 0)), (22, .iconst (-1), 23, (0, 0, 0, 0, (-1), 0)), (23, .ireturn, 24, (0, 0, 0, 0, 0, 0))]
theorem okX8_covers : zv_ok 2 cX8_covers RX8 zt vwCl tbX8_covers = true := by decide +kernel
theorem dzX8_covers_5 : decode cX8_covers 5 = .ok (.invokevirtual 69, 3) := by decide +kernel
theorem dzX8_covers_16 : decode cX8_covers 16 = .ok (.invokevirtual 85, 3) := by decide +kernel
theorem dzX8_covers_23 : decode cX8_covers 23 = .ok (.ireturn, 1) := by decide +kernel
set_option maxRecDepth 100000 in
theorem inX8_covers : Jvm.Cond.code yX8_covers cX8_covers 2 ((some .int)) ∈ zt := List.mem_filter.mpr ⟨List.mem_append_right _ (List.mem_of_getElem? (i := 280) rfl), rfl⟩
def tbX8_count : List zv_I := [(0, .iload_n 1, 1, (0, 0, 0, 0, 0, 0)), (1, .tableswitch 90 0 5 #[39, 47, 55, 63, 74, 82], 40, (0, 0, 0, 0, 0, 0)), (40, .aload_n 0, 41, (0, 0, 0, 0, 0, 0)), (41, .getfield 10, 44, (0, 8, 0, 0, 0, 0)), (44, .getfield 88, 47, (1, 4, 2, 0, 0, 0)), (47, .ireturn, 48, (0, 0, 0, 0, 0, 0)), (48, .aload_n 0, 49, (0, 0, 0, 0, 0, 0)), (49, .getfield 10, 52, (0, 8, 0, 0, 0, 0)), (52, .invokevirtual 92, 55, (0, 0, 0, 0, 0, 0)), (55, .ireturn, 56, (0, 0, 0, 0, 0, 0)), (56, .aload_n 0, 57, (0, 0, 0, 0, 0, 0)), (57, .getfield 24, 60, (0, 8, 1, 0, 0, 0)), (60, .invokevirtual 96, 63, (0, 0, 0, 0, 0, 0)), (63, .ireturn, 64, (0, 0, 0, 0, 0, 0)), (64, .aload_n 0, 65, (0, 0, 0, 0, 0, 0)), (65, .getfield 33, 68, (0, 8, 2, 0, 0, 0)), (68, .invokevirtual 99, 71, (0, 0, 0, 0, 0, 0)), (71, .invokestatic 102, 74, (0, 0, 0, 0, 0, 0)), (74, .ireturn, 75, (0, 0, 0, 0, 0, 0)), (75, .aload_n 0, 76, (0, 0, 0, 0, 0, 0)), (76, .getfield 47, 79, (0, 8, 4, 0, 0, 0)), (79, .invokevirtual 107, 82, (0, 0, 0, 0, 0, 0)), (82, .ireturn, 83, (0, 0, 0, 0, 0, 0)), (83, .aload_n 0, 84, (0, 0, 0, 0, 0, 0)), (84, .getfield 54, 87, (0, 8, 5, 0, 0, 0)), (87, .invokevirtual 110, 90, (0, 0, 0, 0, 0, 0)), (90, .ireturn, 91, (0, 0, 0, 0, 0, 0)), (91, .iconst (-1), 92, (0, 0, 0, 0, (-1), 0)), (92, .ireturn, 93, (0, 0, 0, 0, 0, 0))]
theorem okX8_count : zv_ok 2 cX8_count RX8 zt vwCl tbX8_count = true := by decide +kernel
theorem dzX8_count_1 : decode cX8_count 1 = .ok (.tableswitch 90 0 5 #[39, 47, 55, 63, 74, 82], 39) := by decide +kernel
theorem dzX8_count_47 : decode cX8_count 47 = .ok (.ireturn, 1) := by decide +kernel
theorem dzX8_count_52 : decode cX8_count 52 = .ok (.invokevirtual 92, 3) := by decide +kernel
theorem dzX8_count_55 : decode cX8_count 55 = .ok (.ireturn, 1) := by decide +kernel
theorem dzX8_count_60 : decode cX8_count 60 = .ok (.invokevirtual 96, 3) := by decide +kernel
theorem dzX8_count_63 : decode cX8_count 63 = .ok (.ireturn, 1) := by decide +kernel
theorem dzX8_count_68 : decode cX8_count 68 = .ok (.invokevirtual 99, 3) := by decide +kernel
theorem dzX8_count_71 : decode cX8_count 71 = .ok (.invokestatic 102, 3) := by decide +kernel
theorem dzX8_count_74 : decode cX8_count 74 = .ok (.ireturn, 1) := by decide +kernel
theorem dzX8_count_79 : decode cX8_count 79 = .ok (.invokevirtual 107, 3) := by decide +kernel
theorem dzX8_count_82 : decode cX8_count 82 = .ok (.ireturn, 1) := by decide +kernel
theorem dzX8_count_87 : decode cX8_count 87 = .ok (.invokevirtual 110, 3) := by decide +kernel
theorem dzX8_count_90 : decode cX8_count 90 = .ok (.ireturn, 1) := by decide +kernel
theorem dzX8_count_92 : decode cX8_count 92 = .ok (.ireturn, 1) := by decide +kernel
set_option maxRecDepth 100000 in
theorem inX8_count : Jvm.Cond.code yX8_count cX8_count 2 ((some .int)) ∈ zt := List.mem_filter.mpr ⟨List.mem_append_right _ (List.mem_of_getElem? (i := 289) rfl), rfl⟩
def tbX8_chain : List zv_I := [(0, .aload_n 0, 1, (0, 0, 0, 0, 0, 0)), (1, .getfield 24, 4, (0, 8, 1, 0, 0, 0)), (4, .iload_n 1, 5, (0, 0, 0, 0, 0, 0)), (5, .invokevirtual 111, 8, (0, 0, 0, 0, 0, 0)), (8, .ireturn, 9, (0, 0, 0, 0, 0, 0))]
theorem okX8_chain : zv_ok 2 cX8_chain RX8 zt vwCl tbX8_chain = true := by decide +kernel
theorem dzX8_chain_5 : decode cX8_chain 5 = .ok (.invokevirtual 111, 3) := by decide +kernel
theorem dzX8_chain_8 : decode cX8_chain 8 = .ok (.ireturn, 1) := by decide +kernel
set_option maxRecDepth 100000 in
theorem inX8_chain : Jvm.Cond.code yX8_chain cX8_chain 2 ((some .int)) ∈ zt := List.mem_filter.mpr ⟨List.mem_append_right _ (List.mem_of_getElem? (i := 415) rfl), rfl⟩
def tbX8_apart : List zv_I := [(0, .aload_n 0, 1, (0, 0, 0, 0, 0, 0)), (1, .getfield 33, 4, (0, 8, 2, 0, 0, 0)), (4, .invokevirtual 99, 7, (0, 0, 0, 0, 0, 0)), (7, .ireturn, 8, (0, 0, 0, 0, 0, 0))]
theorem okX8_apart : zv_ok 1 cX8_apart RX8 zt vwCl tbX8_apart = true := by decide +kernel
theorem dzX8_apart_4 : decode cX8_apart 4 = .ok (.invokevirtual 99, 3) := by decide +kernel
theorem dzX8_apart_7 : decode cX8_apart 7 = .ok (.ireturn, 1) := by decide +kernel
set_option maxRecDepth 100000 in
theorem inX8_apart : Jvm.Cond.code yX8_apart cX8_apart 1 ((some .int)) ∈ zt := List.mem_filter.mpr ⟨List.mem_append_right _ (List.mem_of_getElem? (i := 423) rfl), rfl⟩
def tbX8_next : List zv_I := [(0, .aload_n 0, 1, (0, 0, 0, 0, 0, 0)), (1, .getfield 10, 4, (0, 8, 0, 0, 0, 0)), (4, .iload_n 1, 5, (0, 0, 0, 0, 0, 0)), (5, .invokevirtual 69, 8, (0, 0, 0, 0, 0, 0)), (8, .ifCond .eq 14, 11, (22, 0, 0, 0, 0, 0)), (11, .aload_n 0, 12, (0, 0, 0, 0, 0, 0)), (12, .getfield 40, 15, (0, 8, 3, 0, 0, 0)), (15, .iload_n 1, 16, (0, 0, 0, 0, 0, 0)), (16, .invokevirtual 114, 19, (0, 0, 0, 0, 0, 0)), (19, .goto 4, 22, (23, 0, 0, 0, 0, 0)), (22, .iconst (-1), 23, (0, 0, 0, 0, (-1), 0)), (23, .ireturn, 24, (0, 0, 0, 0, 0, 0))]
theorem okX8_next : zv_ok 2 cX8_next RX8 zt vwCl tbX8_next = true := by decide +kernel
theorem dzX8_next_5 : decode cX8_next 5 = .ok (.invokevirtual 69, 3) := by decide +kernel
theorem dzX8_next_16 : decode cX8_next 16 = .ok (.invokevirtual 114, 3) := by decide +kernel
theorem dzX8_next_23 : decode cX8_next 23 = .ok (.ireturn, 1) := by decide +kernel
set_option maxRecDepth 100000 in
theorem inX8_next : Jvm.Cond.code yX8_next cX8_next 2 ((some .int)) ∈ zt := List.mem_filter.mpr ⟨List.mem_append_right _ (List.mem_of_getElem? (i := 427) rfl), rfl⟩
def tbX8_rows : List zv_I := [(0, .aload_n 0, 1, (0, 0, 0, 0, 0, 0)), (1, .getfield 47, 4, (0, 8, 4, 0, 0, 0)), (4, .invokevirtual 117, 7, (0, 0, 0, 0, 0, 0)), (7, .lreturn, 8, (0, 0, 0, 0, 0, 0))]
theorem okX8_rows : zv_ok 1 cX8_rows RX8 zt vwCl tbX8_rows = true := by decide +kernel
theorem dzX8_rows_4 : decode cX8_rows 4 = .ok (.invokevirtual 117, 3) := by decide +kernel
theorem dzX8_rows_7 : decode cX8_rows 7 = .ok (.lreturn, 1) := by decide +kernel
set_option maxRecDepth 100000 in
theorem inX8_rows : Jvm.Cond.code yX8_rows cX8_rows 1 ((some .long)) ∈ zt := List.mem_filter.mpr ⟨List.mem_append_right _ (List.mem_of_getElem? (i := 445) rfl), rfl⟩
def tbX8_before : List zv_I := [(0, .aload_n 0, 1, (0, 0, 0, 0, 0, 0)), (1, .getfield 10, 4, (0, 8, 0, 0, 0, 0)), (4, .iload_n 1, 5, (0, 0, 0, 0, 0, 0)), (5, .invokevirtual 69, 8, (0, 0, 0, 0, 0, 0)), (8, .ifCond .eq 19, 11, (27, 0, 0, 0, 0, 0)), (11, .aload_n 0, 12, (0, 0, 0, 0, 0, 0)), (12, .getfield 10, 15, (0, 8, 0, 0, 0, 0)), (15, .iload_n 2, 16, (0, 0, 0, 0, 0, 0)), (16, .invokevirtual 69, 19, (0, 0, 0, 0, 0, 0)), (19, .ifCond .eq 8, 22, (27, 0, 0, 0, 0, 0)), (22, .iload_n 1, 23, (0, 0, 0, 0, 0, 0)), (23, .iload_n 2, 24, (0, 0, 0, 0, 0, 0)), (24, .if_icmp .ne 7, 27, (31, 0, 0, 0, 0, 0)), (27, .ldc2_w 121, 30, (0, 0, 0, 0, 0, (-1))), (30, .lreturn, 31, (0, 0, 0, 0, 0, 0)), (31, .aload_n 0, 32, (0, 0, 0, 0, 0, 0)), (32, .getfield 47, 35, (0, 8, 4, 0, 0, 0)), (35, .iload_n 1, 36, (0, 0, 0, 0, 0, 0)), (36, .iload_n 2, 37, (0, 0, 0, 0, 0, 0)), (37, .invokevirtual 123, 40, (0, 0, 0, 0, 0, 0)), (40, .lreturn, 41, (0, 0, 0, 0, 0, 0))]
theorem okX8_before : zv_ok 3 cX8_before RX8 zt vwCl tbX8_before = true := by decide +kernel
theorem dzX8_before_5 : decode cX8_before 5 = .ok (.invokevirtual 69, 3) := by decide +kernel
theorem dzX8_before_16 : decode cX8_before 16 = .ok (.invokevirtual 69, 3) := by decide +kernel
theorem dzX8_before_30 : decode cX8_before 30 = .ok (.lreturn, 1) := by decide +kernel
theorem dzX8_before_37 : decode cX8_before 37 = .ok (.invokevirtual 123, 3) := by decide +kernel
theorem dzX8_before_40 : decode cX8_before 40 = .ok (.lreturn, 1) := by decide +kernel
set_option maxRecDepth 100000 in
theorem inX8_before : Jvm.Cond.code yX8_before cX8_before 3 ((some .long)) ∈ zt := List.mem_filter.mpr ⟨List.mem_append_right _ (List.mem_of_getElem? (i := 453) rfl), rfl⟩
def tbX8_places : List zv_I := [(0, .aload_n 0, 1, (0, 0, 0, 0, 0, 0)), (1, .getfield 10, 4, (0, 8, 0, 0, 0, 0)), (4, .iload_n 1, 5, (0, 0, 0, 0, 0, 0)), (5, .invokevirtual 69, 8, (0, 0, 0, 0, 0, 0)), (8, .ifCond .eq 18, 11, (26, 0, 0, 0, 0, 0)), (11, .iload_n 2, 12, (0, 0, 0, 0, 0, 0)), (12, .ifCond .lt 14, 15, (26, 0, 0, 0, 0, 0)), (15, .iload_n 2, 16, (0, 0, 0, 0, 0, 0)), (16, .aload_n 0, 17, (0, 0, 0, 0, 0, 0)), (17, .getfield 10, 20, (0, 8, 0, 0, 0, 0)), (20, .getfield 88, 23, (1, 4, 2, 0, 0, 0)), (23, .if_icmp .lt 7, 26, (30, 0, 0, 0, 0, 0)), (26, .ldc2_w 121, 29, (0, 0, 0, 0, 0, (-1))), (29, .lreturn, 30, (0, 0, 0, 0, 0, 0)), (30, .aload_n 0, 31, (0, 0, 0, 0, 0, 0)), (31, .getfield 47, 34, (0, 8, 4, 0, 0, 0)), (34, .iload_n 1, 35, (0, 0, 0, 0, 0, 0)), (35, .iload_n 2, 36, (0, 0, 0, 0, 0, 0)), (36, .invokevirtual 127, 39, (0, 0, 0, 0, 0, 0)), (39, .lreturn, 40, (0, 0, 0, 0, 0, 0))]
theorem okX8_places : zv_ok 3 cX8_places RX8 zt vwCl tbX8_places = true := by decide +kernel
theorem dzX8_places_5 : decode cX8_places 5 = .ok (.invokevirtual 69, 3) := by decide +kernel
theorem dzX8_places_29 : decode cX8_places 29 = .ok (.lreturn, 1) := by decide +kernel
theorem dzX8_places_36 : decode cX8_places 36 = .ok (.invokevirtual 127, 3) := by decide +kernel
theorem dzX8_places_39 : decode cX8_places 39 = .ok (.lreturn, 1) := by decide +kernel
set_option maxRecDepth 100000 in
theorem inX8_places : Jvm.Cond.code yX8_places cX8_places 3 ((some .long)) ∈ zt := List.mem_filter.mpr ⟨List.mem_append_right _ (List.mem_of_getElem? (i := 486) rfl), rfl⟩
def tbX8_row : List zv_I := [(0, .aload_n 0, 1, (0, 0, 0, 0, 0, 0)), (1, .getfield 47, 4, (0, 8, 4, 0, 0, 0)), (4, .lload_n 1, 5, (0, 0, 0, 0, 0, 0)), (5, .invokevirtual 130, 8, (0, 0, 0, 0, 0, 0)), (8, .lreturn, 9, (0, 0, 0, 0, 0, 0))]
theorem okX8_row : zv_ok 3 cX8_row RX8 zt vwCl tbX8_row = true := by decide +kernel
theorem dzX8_row_5 : decode cX8_row 5 = .ok (.invokevirtual 130, 3) := by decide +kernel
theorem dzX8_row_8 : decode cX8_row 8 = .ok (.lreturn, 1) := by decide +kernel
set_option maxRecDepth 100000 in
theorem inX8_row : Jvm.Cond.code yX8_row cX8_row 3 ((some .long)) ∈ zt := List.mem_filter.mpr ⟨List.mem_append_right _ (List.mem_of_getElem? (i := 495) rfl), rfl⟩
def tbX8_rank : List zv_I := [(0, .aload_n 0, 1, (0, 0, 0, 0, 0, 0)), (1, .getfield 47, 4, (0, 8, 4, 0, 0, 0)), (4, .lload_n 1, 5, (0, 0, 0, 0, 0, 0)), (5, .invokevirtual 134, 8, (0, 0, 0, 0, 0, 0)), (8, .lreturn, 9, (0, 0, 0, 0, 0, 0))]
theorem okX8_rank : zv_ok 3 cX8_rank RX8 zt vwCl tbX8_rank = true := by decide +kernel
theorem dzX8_rank_5 : decode cX8_rank 5 = .ok (.invokevirtual 134, 3) := by decide +kernel
theorem dzX8_rank_8 : decode cX8_rank 8 = .ok (.lreturn, 1) := by decide +kernel
set_option maxRecDepth 100000 in
theorem inX8_rank : Jvm.Cond.code yX8_rank cX8_rank 3 ((some .long)) ∈ zt := List.mem_filter.mpr ⟨List.mem_append_right _ (List.mem_of_getElem? (i := 504) rfl), rfl⟩
def tbX8_cut : List zv_I := [(0, .aload_n 0, 1, (0, 0, 0, 0, 0, 0)), (1, .getfield 54, 4, (0, 8, 5, 0, 0, 0)), (4, .iload_n 1, 5, (0, 0, 0, 0, 0, 0)), (5, .invokevirtual 137, 8, (0, 0, 0, 0, 0, 0)), (8, .ifCond .eq 14, 11, (22, 0, 0, 0, 0, 0)), (11, .aload_n 0, 12, (0, 0, 0, 0, 0, 0)), (12, .getfield 54, 15, (0, 8, 5, 0, 0, 0)), (15, .iload_n 1, 16, (0, 0, 0, 0, 0, 0)), (16, .invokevirtual 138, 19, (0, 0, 0, 0, 0, 0)), (19, .goto 4, 22, (23, 0, 0, 0, 0, 0)), (22, .iconst (-1), 23, (0, 0, 0, 0, (-1), 0)), (23, .ireturn, 24, (0, 0, 0, 0, 0, 0))]
theorem okX8_cut : zv_ok 2 cX8_cut RX8 zt vwCl tbX8_cut = true := by decide +kernel
theorem dzX8_cut_5 : decode cX8_cut 5 = .ok (.invokevirtual 137, 3) := by decide +kernel
theorem dzX8_cut_16 : decode cX8_cut 16 = .ok (.invokevirtual 138, 3) := by decide +kernel
theorem dzX8_cut_23 : decode cX8_cut 23 = .ok (.ireturn, 1) := by decide +kernel
set_option maxRecDepth 100000 in
theorem inX8_cut : Jvm.Cond.code yX8_cut cX8_cut 2 ((some .int)) ∈ zt := List.mem_filter.mpr ⟨List.mem_append_right _ (List.mem_of_getElem? (i := 513) rfl), rfl⟩
def tbX8_least : List zv_I := [(0, .iload_n 1, 1, (0, 0, 0, 0, 0, 0)), (1, .aload_n 0, 2, (0, 0, 0, 0, 0, 0)), (2, .getfield 10, 5, (0, 8, 0, 0, 0, 0)), (5, .invokevirtual 141, 8, (0, 0, 0, 0, 0, 0)), (8, .iconst (-1), 9, (0, 0, 0, 0, (-1), 0)), (9, .ixor, 10, (0, 0, 0, 0, 0, 0)), (10, .iand, 11, (0, 0, 0, 0, 0, 0)), (11, .ifCond .eq 5, 14, (16, 0, 0, 0, 0, 0)), (14, .iconst (-1), 15, (0, 0, 0, 0, (-1), 0)), (15, .ireturn, 16, (0, 0, 0, 0, 0, 0)), (16, .aload_n 0, 17, (0, 0, 0, 0, 0, 0)), (17, .getfield 54, 20, (0, 8, 5, 0, 0, 0)), (20, .iload_n 1, 21, (0, 0, 0, 0, 0, 0)), (21, .invokevirtual 144, 24, (0, 0, 0, 0, 0, 0)), (24, .ireturn, 25, (0, 0, 0, 0, 0, 0))]
theorem okX8_least : zv_ok 2 cX8_least RX8 zt vwCl tbX8_least = true := by decide +kernel
theorem dzX8_least_5 : decode cX8_least 5 = .ok (.invokevirtual 141, 3) := by decide +kernel
theorem dzX8_least_15 : decode cX8_least 15 = .ok (.ireturn, 1) := by decide +kernel
theorem dzX8_least_21 : decode cX8_least 21 = .ok (.invokevirtual 144, 3) := by decide +kernel
theorem dzX8_least_24 : decode cX8_least 24 = .ok (.ireturn, 1) := by decide +kernel
set_option maxRecDepth 100000 in
theorem inX8_least : Jvm.Cond.code yX8_least cX8_least 2 ((some .int)) ∈ zt := List.mem_filter.mpr ⟨List.mem_append_right _ (List.mem_of_getElem? (i := 525) rfl), rfl⟩
def tbX8_joined : List zv_I := [(0, .aload_n 0, 1, (0, 0, 0, 0, 0, 0)), (1, .getfield 54, 4, (0, 8, 5, 0, 0, 0)), (4, .iload_n 1, 5, (0, 0, 0, 0, 0, 0)), (5, .invokevirtual 137, 8, (0, 0, 0, 0, 0, 0)), (8, .ifCond .eq 14, 11, (22, 0, 0, 0, 0, 0)), (11, .aload_n 0, 12, (0, 0, 0, 0, 0, 0)), (12, .getfield 54, 15, (0, 8, 5, 0, 0, 0)), (15, .iload_n 2, 16, (0, 0, 0, 0, 0, 0)), (16, .invokevirtual 137, 19, (0, 0, 0, 0, 0, 0)), (19, .ifCond .ne 5, 22, (24, 0, 0, 0, 0, 0)), (22, .iconst (-1), 23, (0, 0, 0, 0, (-1), 0)), (23, .ireturn, 24, (0, 0, 0, 0, 0, 0)), (24, .aload_n 0, 25, (0, 0, 0, 0, 0, 0)), (25, .getfield 54, 28, (0, 8, 5, 0, 0, 0)), (28, .iload_n 1, 29, (0, 0, 0, 0, 0, 0)), (29, .invokevirtual 138, 32, (0, 0, 0, 0, 0, 0)), (32, .istore 4, 34, (0, 0, 0, 0, 0, 0)), (34, .aload_n 0, 35, (0, 0, 0, 0, 0, 0)), (35, .getfield 54, 38, (0, 8, 5, 0, 0, 0)), (38, .iload_n 2, 39, (0, 0, 0, 0, 0, 0)), (39, .invokevirtual 138, 42, (0, 0, 0, 0, 0, 0)), (42, .istore 5, 44, (0, 0, 0, 0, 0, 0)), (44, .aload_n 0, 45, (0, 0, 0, 0, 0, 0)), (45, .getfield 54, 48, (0, 8, 5, 0, 0, 0)), (48, .iload_n 3, 49, (0, 0, 0, 0, 0, 0)), (49, .ifCond .eq 11, 52, (60, 0, 0, 0, 0, 0)), (52, .iload 4, 54, (0, 0, 0, 0, 0, 0)), (54, .iload 5, 56, (0, 0, 0, 0, 0, 0)), (56, .iand, 57, (0, 0, 0, 0, 0, 0)), (57, .goto 8, 60, (65, 0, 0, 0, 0, 0)), (60, .iload 4, 62, (0, 0, 0, 0, 0, 0)), (62, .iload 5, 64, (0, 0, 0, 0, 0, 0)), (64, .ior, 65, (0, 0, 0, 0, 0, 0)), (65, .invokevirtual 144, 68, (0, 0, 0, 0, 0, 0)), (68, .ireturn, 69, (0, 0, 0, 0, 0, 0))]
theorem okX8_joined : zv_ok 6 cX8_joined RX8 zt vwCl tbX8_joined = true := by decide +kernel
theorem dzX8_joined_5 : decode cX8_joined 5 = .ok (.invokevirtual 137, 3) := by decide +kernel
theorem dzX8_joined_16 : decode cX8_joined 16 = .ok (.invokevirtual 137, 3) := by decide +kernel
theorem dzX8_joined_23 : decode cX8_joined 23 = .ok (.ireturn, 1) := by decide +kernel
theorem dzX8_joined_29 : decode cX8_joined 29 = .ok (.invokevirtual 138, 3) := by decide +kernel
theorem dzX8_joined_39 : decode cX8_joined 39 = .ok (.invokevirtual 138, 3) := by decide +kernel
theorem dzX8_joined_65 : decode cX8_joined 65 = .ok (.invokevirtual 144, 3) := by decide +kernel
theorem dzX8_joined_68 : decode cX8_joined 68 = .ok (.ireturn, 1) := by decide +kernel
set_option maxRecDepth 100000 in
theorem inX8_joined : Jvm.Cond.code yX8_joined cX8_joined 6 ((some .int)) ∈ zt := List.mem_filter.mpr ⟨List.mem_append_right _ (List.mem_of_getElem? (i := 534) rfl), rfl⟩
def tbX8_mu : List zv_I := [(0, .aload_n 0, 1, (0, 0, 0, 0, 0, 0)), (1, .getfield 10, 4, (0, 8, 0, 0, 0, 0)), (4, .iload_n 1, 5, (0, 0, 0, 0, 0, 0)), (5, .invokevirtual 69, 8, (0, 0, 0, 0, 0, 0)), (8, .ifCond .eq 14, 11, (22, 0, 0, 0, 0, 0)), (11, .aload_n 0, 12, (0, 0, 0, 0, 0, 0)), (12, .getfield 10, 15, (0, 8, 0, 0, 0, 0)), (15, .iload_n 2, 16, (0, 0, 0, 0, 0, 0)), (16, .invokevirtual 69, 19, (0, 0, 0, 0, 0, 0)), (19, .ifCond .ne 5, 22, (24, 0, 0, 0, 0, 0)), (22, .iconst 0, 23, (0, 0, 0, 0, 0, 0)), (23, .ireturn, 24, (0, 0, 0, 0, 0, 0)), (24, .aload_n 0, 25, (0, 0, 0, 0, 0, 0)), (25, .getfield 10, 28, (0, 8, 0, 0, 0, 0)), (28, .iload_n 1, 29, (0, 0, 0, 0, 0, 0)), (29, .invokevirtual 147, 32, (0, 0, 0, 0, 0, 0)), (32, .aload_n 0, 33, (0, 0, 0, 0, 0, 0)), (33, .getfield 10, 36, (0, 8, 0, 0, 0, 0)), (36, .iload_n 2, 37, (0, 0, 0, 0, 0, 0)), (37, .invokevirtual 150, 40, (0, 0, 0, 0, 0, 0)), (40, .iand, 41, (0, 0, 0, 0, 0, 0)), (41, .istore_n 3, 42, (0, 0, 0, 0, 0, 0)), (42, .aload_n 0, 43, (0, 0, 0, 0, 0, 0)), (43, .getfield 61, 46, (0, 8, 6, 0, 0, 0)), (46, .invokevirtual 153, 49, (0, 0, 0, 0, 0, 0)), (49, .iconst 0, 50, (0, 0, 0, 0, 0, 0)), (50, .istore 4, 52, (0, 0, 0, 0, 0, 0)), (52, .iload 4, 54, (0, 0, 0, 0, 0, 0)), (54, .aload_n 0, 55, (0, 0, 0, 0, 0, 0)), (55, .getfield 10, 58, (0, 8, 0, 0, 0, 0)), (58, .getfield 88, 61, (1, 4, 2, 0, 0, 0)), (61, .if_icmp .ge 34, 64, (95, 0, 0, 0, 0, 0)), (64, .iload_n 3, 65, (0, 0, 0, 0, 0, 0)), (65, .iconst 1, 66, (0, 0, 0, 0, 1, 0)), (66, .iload 4, 68, (0, 0, 0, 0, 0, 0)), (68, .ishl, 69, (0, 0, 0, 0, 0, 0)), (69, .iand, 70, (0, 0, 0, 0, 0, 0)), (70, .ifCond .eq 19, 73, (89, 0, 0, 0, 0, 0)), (73, .aload_n 0, 74, (0, 0, 0, 0, 0, 0)), (74, .getfield 61, 77, (0, 8, 6, 0, 0, 0)), (77, .aload_n 0, 78, (0, 0, 0, 0, 0, 0)), (78, .getfield 10, 81, (0, 8, 0, 0, 0, 0)), (81, .iload 4, 83, (0, 0, 0, 0, 0, 0)), (83, .invokevirtual 150, 86, (0, 0, 0, 0, 0, 0)), (86, .invokevirtual 156, 89, (0, 0, 0, 0, 0, 0)), (89, .iinc 4 1, 92, (0, 0, 0, 0, 1, 0)), (92, .goto (-40), 95, (52, 0, 0, 0, 0, 0)), (95, .aload_n 0, 96, (0, 0, 0, 0, 0, 0)), (96, .getfield 61, 99, (0, 8, 6, 0, 0, 0)), (99, .invokevirtual 159, 102, (0, 0, 0, 0, 0, 0)), (102, .ireturn, 103, (0, 0, 0, 0, 0, 0))]
theorem okX8_mu : zv_ok 5 cX8_mu RX8 zt vwCl tbX8_mu = true := by decide +kernel
theorem dzX8_mu_5 : decode cX8_mu 5 = .ok (.invokevirtual 69, 3) := by decide +kernel
theorem dzX8_mu_16 : decode cX8_mu 16 = .ok (.invokevirtual 69, 3) := by decide +kernel
theorem dzX8_mu_23 : decode cX8_mu 23 = .ok (.ireturn, 1) := by decide +kernel
theorem dzX8_mu_29 : decode cX8_mu 29 = .ok (.invokevirtual 147, 3) := by decide +kernel
theorem dzX8_mu_37 : decode cX8_mu 37 = .ok (.invokevirtual 150, 3) := by decide +kernel
theorem dzX8_mu_46 : decode cX8_mu 46 = .ok (.invokevirtual 153, 3) := by decide +kernel
theorem dzX8_mu_83 : decode cX8_mu 83 = .ok (.invokevirtual 150, 3) := by decide +kernel
theorem dzX8_mu_86 : decode cX8_mu 86 = .ok (.invokevirtual 156, 3) := by decide +kernel
theorem dzX8_mu_99 : decode cX8_mu 99 = .ok (.invokevirtual 159, 3) := by decide +kernel
theorem dzX8_mu_102 : decode cX8_mu 102 = .ok (.ireturn, 1) := by decide +kernel
set_option maxRecDepth 100000 in
theorem inX8_mu : Jvm.Cond.code yX8_mu cX8_mu 5 ((some .int)) ∈ zt := List.mem_filter.mpr ⟨List.mem_append_right _ (List.mem_of_getElem? (i := 538) rfl), rfl⟩
def tbX8_muOfCuts : List zv_I := [(0, .aload_n 0, 1, (0, 0, 0, 0, 0, 0)), (1, .getfield 54, 4, (0, 8, 5, 0, 0, 0)), (4, .iload_n 1, 5, (0, 0, 0, 0, 0, 0)), (5, .invokevirtual 137, 8, (0, 0, 0, 0, 0, 0)), (8, .ifCond .eq 14, 11, (22, 0, 0, 0, 0, 0)), (11, .aload_n 0, 12, (0, 0, 0, 0, 0, 0)), (12, .getfield 54, 15, (0, 8, 5, 0, 0, 0)), (15, .iload_n 2, 16, (0, 0, 0, 0, 0, 0)), (16, .invokevirtual 137, 19, (0, 0, 0, 0, 0, 0)), (19, .ifCond .ne 5, 22, (24, 0, 0, 0, 0, 0)), (22, .iconst 0, 23, (0, 0, 0, 0, 0, 0)), (23, .ireturn, 24, (0, 0, 0, 0, 0, 0)), (24, .aload_n 0, 25, (0, 0, 0, 0, 0, 0)), (25, .getfield 54, 28, (0, 8, 5, 0, 0, 0)), (28, .iload_n 1, 29, (0, 0, 0, 0, 0, 0)), (29, .invokevirtual 138, 32, (0, 0, 0, 0, 0, 0)), (32, .istore_n 3, 33, (0, 0, 0, 0, 0, 0)), (33, .aload_n 0, 34, (0, 0, 0, 0, 0, 0)), (34, .getfield 54, 37, (0, 8, 5, 0, 0, 0)), (37, .iload_n 2, 38, (0, 0, 0, 0, 0, 0)), (38, .invokevirtual 138, 41, (0, 0, 0, 0, 0, 0)), (41, .istore 4, 43, (0, 0, 0, 0, 0, 0)), (43, .aload_n 0, 44, (0, 0, 0, 0, 0, 0)), (44, .getfield 61, 47, (0, 8, 6, 0, 0, 0)), (47, .invokevirtual 153, 50, (0, 0, 0, 0, 0, 0)), (50, .iload_n 1, 51, (0, 0, 0, 0, 0, 0)), (51, .istore 5, 53, (0, 0, 0, 0, 0, 0)), (53, .iload 5, 55, (0, 0, 0, 0, 0, 0)), (55, .iload_n 2, 56, (0, 0, 0, 0, 0, 0)), (56, .if_icmp .gt 48, 59, (104, 0, 0, 0, 0, 0)), (59, .aload_n 0, 60, (0, 0, 0, 0, 0, 0)), (60, .getfield 54, 63, (0, 8, 5, 0, 0, 0)), (63, .iload 5, 65, (0, 0, 0, 0, 0, 0)), (65, .invokevirtual 138, 68, (0, 0, 0, 0, 0, 0)), (68, .istore 6, 70, (0, 0, 0, 0, 0, 0)), (70, .iload_n 3, 71, (0, 0, 0, 0, 0, 0)), (71, .iload 6, 73, (0, 0, 0, 0, 0, 0)), (73, .invokestatic 162, 76, (0, 0, 0, 0, 0, 0)), (76, .ifCond .eq 22, 79, (98, 0, 0, 0, 0, 0)), (79, .iload 6, 81, (0, 0, 0, 0, 0, 0)), (81, .iload 4, 83, (0, 0, 0, 0, 0, 0)), (83, .invokestatic 162, 86, (0, 0, 0, 0, 0, 0)), (86, .ifCond .eq 12, 89, (98, 0, 0, 0, 0, 0)), (89, .aload_n 0, 90, (0, 0, 0, 0, 0, 0)), (90, .getfield 61, 93, (0, 8, 6, 0, 0, 0)), (93, .iload 6, 95, (0, 0, 0, 0, 0, 0)), (95, .invokevirtual 156, 98, (0, 0, 0, 0, 0, 0)), (98, .iinc 5 1, 101, (0, 0, 0, 0, 1, 0)), (101, .goto (-48), 104, (53, 0, 0, 0, 0, 0)), (104, .aload_n 0, 105, (0, 0, 0, 0, 0, 0)), (105, .getfield 61, 108, (0, 8, 6, 0, 0, 0)), (108, .invokevirtual 159, 111, (0, 0, 0, 0, 0, 0)), (111, .ireturn, 112, (0, 0, 0, 0, 0, 0))]
theorem okX8_muOfCuts : zv_ok 7 cX8_muOfCuts RX8 zt vwCl tbX8_muOfCuts = true := by decide +kernel
theorem dzX8_muOfCuts_5 : decode cX8_muOfCuts 5 = .ok (.invokevirtual 137, 3) := by decide +kernel
theorem dzX8_muOfCuts_16 : decode cX8_muOfCuts 16 = .ok (.invokevirtual 137, 3) := by decide +kernel
theorem dzX8_muOfCuts_23 : decode cX8_muOfCuts 23 = .ok (.ireturn, 1) := by decide +kernel
theorem dzX8_muOfCuts_29 : decode cX8_muOfCuts 29 = .ok (.invokevirtual 138, 3) := by decide +kernel
theorem dzX8_muOfCuts_38 : decode cX8_muOfCuts 38 = .ok (.invokevirtual 138, 3) := by decide +kernel
theorem dzX8_muOfCuts_47 : decode cX8_muOfCuts 47 = .ok (.invokevirtual 153, 3) := by decide +kernel
theorem dzX8_muOfCuts_65 : decode cX8_muOfCuts 65 = .ok (.invokevirtual 138, 3) := by decide +kernel
theorem dzX8_muOfCuts_73 : decode cX8_muOfCuts 73 = .ok (.invokestatic 162, 3) := by decide +kernel
theorem dzX8_muOfCuts_83 : decode cX8_muOfCuts 83 = .ok (.invokestatic 162, 3) := by decide +kernel
theorem dzX8_muOfCuts_95 : decode cX8_muOfCuts 95 = .ok (.invokevirtual 156, 3) := by decide +kernel
theorem dzX8_muOfCuts_108 : decode cX8_muOfCuts 108 = .ok (.invokevirtual 159, 3) := by decide +kernel
theorem dzX8_muOfCuts_111 : decode cX8_muOfCuts 111 = .ok (.ireturn, 1) := by decide +kernel
set_option maxRecDepth 100000 in
theorem inX8_muOfCuts : Jvm.Cond.code yX8_muOfCuts cX8_muOfCuts 7 ((some .int)) ∈ zt := List.mem_filter.mpr ⟨List.mem_append_right _ (List.mem_of_getElem? (i := 568) rfl), rfl⟩
end
section
/-! THE DESK: its world, the calls on the order -/
abbrev dO : Type := (Nat → Nat) × (Nat → Nat) × Nat × Int32
abbrev dL : Type := (Nat → Int32) × (Nat → Int32) × Int32 × Int32
abbrev dW : Type := Int32 × Int32
abbrev dP : Type := (Nat → Int32) × Int32
abbrev dR : Type := (Nat → Int64) × (Nat → Int64) × Nat × Int32 × Int32 × Int32
abbrev dC : Type := (Nat → Int32) × Nat × Int32 × Int32
abbrev dM : Type := (Nat → Int32) × (Nat → Int32) × Nat × Int32
abbrev wD (K : zK) (A : Nat → Nat) (O : dO) (L : dL) (q : zS) (W : dW) (P : dP) (R : dR) (C : dC) (M : dM) : va_W :=
  [(A 0, .inr (8, [.ref (A 1), .ref (A 4), .ref (A 9), .ref (A 10), .ref (A 12), .ref (A 15), .ref (A 17)])),
   (A 1, .inr (4, [.ref (A 2), .ref (A 3), .int (nI O.2.2.1), .int O.2.2.2])), (A 2, .inl (cI K, 14, .inl (fun j => nI (O.1 j)))), (A 3, .inl (cI K, 14, .inl (fun j => nI (O.2.1 j)))),
   (A 4, .inr (1, [.ref (A 1), .ref (A 5), .ref (A 6), .int L.2.2.1, .int L.2.2.2])), (A 5, .inl (cI K, 14, .inl L.1)), (A 6, .inl (cI K, 14, .inl L.2.1)),
   (A 7, .inr (2, [.ref (A 1), .ref (A 8), .int q.2.1, .int q.2.2])), (A 8, .inl (cI K, 14, .inl q.1)),
   (A 9, .inr (7, [.ref (A 1), .ref (A 7), .int W.1, .int W.2])),
   (A 10, .inr (5, [.ref (A 1), .ref (A 7), .ref (A 11), .int P.2])), (A 11, .inl (cI K, 14, .inl P.1)),
   (A 12, .inr (6, [.ref (A 1), .ref (A 13), .ref (A 14), .int R.2.2.2.1, .int R.2.2.2.2.1, .int R.2.2.2.2.2])), (A 13, .inl (cJ K, R.2.2.1, .inr (.inl R.1))), (A 14, .inl (cJ K, R.2.2.1, .inr (.inl R.2.1))),
   (A 15, .inr (0, [.ref (A 1), .ref (A 16), .int C.2.2.1, .int C.2.2.2])), (A 16, .inl (cI K, C.2.1, .inl C.1)),
   (A 17, .inr (3, [.ref (A 18), .ref (A 19), .int M.2.2.2])), (A 18, .inl (cI K, M.2.2.1, .inl M.1)), (A 19, .inl (cI K, M.2.2.1, .inl M.2.1))]
theorem hasb_ex {n : Nat} {v : Int32} (hn : n < 2 ^ 31) (h : hasb n v = true) : ∃ j, j < n ∧ v = nI j := by
  have h := of_decide_eq_true h
  obtain ⟨j, hj, e, -⟩ := pk_mu (Int32.not_lt.mpr h.1) (Int32.not_le.mpr h.2) hn
  exact ⟨j, hj, e⟩
section ZD
variable (K : zK) (A : Nat → Nat) (O : dO) (L : dL) (q : zS) (W : dW) (P : dP) (R : dR) (C : dC) (M : dM)
set_option maxHeartbeats 4000000 in
set_option maxRecDepth 100000 in
theorem d_begin_no (k : Int32) (h : k < 1 ∨ 14 < k) : zD K yX8_begin cX8_begin 2 (some .int) (zq 1 0 0 22) [.ref (A 0), .int k] (wD K A O L q W P R C M) (some (.int (-1))) (wD K A O L q W P R C M) := by
  refine zo (by decide) (Nat.le_of_ble_eq_true rfl) fun x Cx Rx _ => ?_
  refine zv_go Cx okX8_begin [] 20 ?_
  refine ⟨fun h1 => ?_, fun h1 => ⟨fun h2 => ?_, fun h2 => ?_⟩⟩
  · exact zr Rx () (List.range 20) (some (.int (-1))) _ rfl rfl trivial rfl rfl (Nat.zero_le _) (Nat.zero_le _) dzX8_begin_12
  · exact absurd h (fun z => z.elim h1 (fun w => absurd h2 (Int32.not_le.mpr w)))
  · exact zr Rx () (List.range 20) (some (.int (-1))) _ rfl rfl trivial rfl rfl (Nat.zero_le _) (Nat.zero_le _) dzX8_begin_12
set_option maxHeartbeats 4000000 in
set_option maxRecDepth 100000 in
theorem d_begin (t : Nat) (h1 : 1 ≤ t) (h2 : t ≤ 14) : zD K yX8_begin cX8_begin 2 (some .int) (zq 1 0 0 22) [.ref (A 0), .int (nI t)] (wD K A O L q W P R C M) (some (.int (nI t))) (wD K A (fun _ => 0, fun _ => 0, t, O.2.2.2 + 1) L q W P R C M) := by
  refine zo (by decide) (Nat.le_of_ble_eq_true rfl) fun x Cx Rx _ => ?_
  refine zv_go Cx okX8_begin [] 20 ?_
  refine ⟨fun h => absurd h (nI_nlt (b := 1) (by omega) (by omega)), fun _ => ⟨fun _ => ⟨rfl, ?_⟩, fun h => absurd (nI_le (b := 14) h2 (by decide)) h⟩⟩
  refine zv_callV Cx (c_startWith K (A 1) (A 2) (A 3) O.1 O.2.1 O.2.2.1 t O.2.2.2) (zw_V inX4_startWith kX8_65 ⟨by decide, by decide⟩) [1, 2, 3] 1 rfl rfl rfl rfl (fun _ => Nat.le_refl _) rfl rfl (by decide) dzX8_begin_18 (by decide) (by decide) rfl (fun _ _ => ?_)
  refine zv_go Cx okX8_begin [] 20 ?_
  exact zr Rx () (List.range 20) (some (.int _)) _ rfl rfl trivial rfl rfl (Nat.zero_le _) (Nat.zero_le _) dzX8_begin_22
set_option maxHeartbeats 4000000 in
set_option maxRecDepth 100000 in
theorem d_free_no (a : Int32) (h : hasb O.2.2.1 a = false) : zD K yX8_free cX8_free 2 (some .int) (zq 2 0 0 45) [.ref (A 0), .int a] (wD K A O L q W P R C M) (some (.int (-1))) (wD K A O L q W P R C M) := by
  refine zo (by decide) (Nat.le_of_ble_eq_true rfl) fun x Cx Rx _ => ?_
  refine zv_go Cx okX8_free [] 3 ?_
  refine ⟨rfl, ?_⟩
  refine zv_callV Cx (c_has K (A 1) (A 2) (A 3) O.1 O.2.1 O.2.2.1 O.2.2.2 a) (zw_V inX4_has kX8_69 ⟨by decide, by decide⟩) [1, 2, 3] 1 rfl rfl rfl rfl (fun _ => Nat.le_refl _) rfl rfl (by decide) dzX8_free_5 (by decide) (by decide) rfl (fun _ _ => ?_)
  refine zv_to Cx rfl rfl (ws' := (wD K A O L q W P R C M)) rfl ?_
  refine zv_go Cx okX8_free [] 20 ?_
  refine ⟨fun h1 => ?_, fun h1 => ?_⟩
  · exact zr Rx () (List.range 20) (some (.int (-1))) _ rfl rfl trivial rfl rfl (Nat.zero_le _) (Nat.zero_le _) dzX8_free_23
  · rw [bI_1, h] at h1; cases h1
set_option maxHeartbeats 4000000 in
set_option maxRecDepth 100000 in
theorem d_free {v : Nat} (hv2 : v < O.2.2.1) (hv : v < 14) (hn : O.2.2.1 ≤ 14) (hb : ∀ j, O.1 j < 2 ^ 14) (ha : ∀ j, O.2.1 j < 2 ^ 14) : zD K yX8_free cX8_free 2 (some .int) (zq 2 0 0 45) [.ref (A 0), .int (nI v)] (wD K A O L q W P R C M) (some (.int (nI (npc 14 (O.1 v) + npc 14 (O.2.1 v))))) (wD K A (va_up (ocut v O.1 O.2.2.1) v 0, va_up (ocut v O.2.1 O.2.2.1) v 0, O.2.2.1, if nI (npc 14 (O.1 v) + npc 14 (O.2.1 v)) = 0 then O.2.2.2 else O.2.2.2 + 1) L q W P R C M) := by
  refine zo (by decide) (Nat.le_of_ble_eq_true rfl) fun x Cx Rx _ => ?_
  refine zv_go Cx okX8_free [] 3 ?_
  refine ⟨rfl, ?_⟩
  refine zv_callV Cx (c_has K (A 1) (A 2) (A 3) O.1 O.2.1 O.2.2.1 O.2.2.2 (nI v)) (zw_V inX4_has kX8_69 ⟨by decide, by decide⟩) [1, 2, 3] 1 rfl rfl rfl rfl (fun _ => Nat.le_refl _) rfl rfl (by decide) dzX8_free_5 (by decide) (by decide) rfl (fun _ _ => ?_)
  refine zv_to Cx rfl rfl (ws' := (wD K A O L q W P R C M)) rfl ?_
  refine zv_go Cx okX8_free [] 20 ?_
  refine ⟨fun h1 => ?_, fun h1 => ⟨rfl, ?_⟩⟩
  · rw [bI_0, hasb_nI (by omega) (by omega), decide_eq_false_iff_not] at h1; exact absurd hv2 h1
  refine zv_callV Cx (c_untie K (A 1) (A 2) (A 3) O.1 O.2.1 O.2.2.1 O.2.2.2 hv hn hb ha) (zw_V inX4_untie kX8_81 ⟨by decide, by decide⟩) [1, 2, 3] 1 rfl rfl rfl rfl (fun _ => Nat.le_refl _) rfl rfl (by decide) dzX8_free_16 (by decide) (by decide) rfl (fun _ _ => ?_)
  refine zv_go Cx okX8_free [] 20 ?_
  exact zr Rx () (List.range 20) (some (.int _)) _ rfl rfl trivial rfl rfl (Nat.zero_le _) (Nat.zero_le _) dzX8_free_23
set_option maxHeartbeats 4000000 in
set_option maxRecDepth 100000 in
theorem d_covers_no (a : Int32) (h : hasb O.2.2.1 a = false) : zD K yX8_covers cX8_covers 2 (some .int) (zq 2 0 0 45) [.ref (A 0), .int a] (wD K A O L q W P R C M) (some (.int (-1))) (wD K A O L q W P R C M) := by
  refine zo (by decide) (Nat.le_of_ble_eq_true rfl) fun x Cx Rx _ => ?_
  refine zv_go Cx okX8_covers [] 3 ?_
  refine ⟨rfl, ?_⟩
  refine zv_callV Cx (c_has K (A 1) (A 2) (A 3) O.1 O.2.1 O.2.2.1 O.2.2.2 a) (zw_V inX4_has kX8_69 ⟨by decide, by decide⟩) [1, 2, 3] 1 rfl rfl rfl rfl (fun _ => Nat.le_refl _) rfl rfl (by decide) dzX8_covers_5 (by decide) (by decide) rfl (fun _ _ => ?_)
  refine zv_to Cx rfl rfl (ws' := (wD K A O L q W P R C M)) rfl ?_
  refine zv_go Cx okX8_covers [] 20 ?_
  refine ⟨fun h1 => ?_, fun h1 => ?_⟩
  · exact zr Rx () (List.range 20) (some (.int (-1))) _ rfl rfl trivial rfl rfl (Nat.zero_le _) (Nat.zero_le _) dzX8_covers_23
  · rw [bI_1, h] at h1; cases h1
set_option maxHeartbeats 4000000 in
set_option maxRecDepth 100000 in
theorem d_covers {v : Nat} (hv2 : v < O.2.2.1) (hv : v < 14) (hn : O.2.2.1 ≤ 14) (hb : ∀ j, O.1 j < 2 ^ 14) (ha : ∀ j, O.2.1 j < 2 ^ 14) : zD K yX8_covers cX8_covers 2 (some .int) (zq 2 0 0 45) [.ref (A 0), .int (nI v)] (wD K A O L q W P R C M) (some (.int (nI (ocov O.2.1 v O.2.2.1)))) (wD K A O L q W P R C M) := by
  refine zo (by decide) (Nat.le_of_ble_eq_true rfl) fun x Cx Rx _ => ?_
  refine zv_go Cx okX8_covers [] 3 ?_
  refine ⟨rfl, ?_⟩
  refine zv_callV Cx (c_has K (A 1) (A 2) (A 3) O.1 O.2.1 O.2.2.1 O.2.2.2 (nI v)) (zw_V inX4_has kX8_69 ⟨by decide, by decide⟩) [1, 2, 3] 1 rfl rfl rfl rfl (fun _ => Nat.le_refl _) rfl rfl (by decide) dzX8_covers_5 (by decide) (by decide) rfl (fun _ _ => ?_)
  refine zv_to Cx rfl rfl (ws' := (wD K A O L q W P R C M)) rfl ?_
  refine zv_go Cx okX8_covers [] 20 ?_
  refine ⟨fun h1 => ?_, fun h1 => ⟨rfl, ?_⟩⟩
  · rw [bI_0, hasb_nI (by omega) (by omega), decide_eq_false_iff_not] at h1; exact absurd hv2 h1
  refine zv_callV Cx (c_coversOf K (A 1) (A 2) (A 3) O.1 O.2.1 O.2.2.1 O.2.2.2 hv hn ha) (zw_V inX4_coversOf kX8_85 ⟨by decide, by decide⟩) [1, 2, 3] 1 rfl rfl rfl rfl (fun _ => Nat.le_refl _) rfl rfl (by decide) dzX8_covers_16 (by decide) (by decide) rfl (fun _ _ => ?_)
  refine zv_go Cx okX8_covers [] 20 ?_
  exact zr Rx () (List.range 20) (some (.int _)) _ rfl rfl trivial rfl rfl (Nat.zero_le _) (Nat.zero_le _) dzX8_covers_23
set_option maxHeartbeats 4000000 in
set_option maxRecDepth 100000 in
theorem d_isBelow_no (a b : Int32) (h : hasb O.2.2.1 a = false ∨ hasb O.2.2.1 b = false) : zD K yX8_isBelow cX8_isBelow 3 (some .boolean) (zq 1 0 0 22) [.ref (A 0), .int a, .int b] (wD K A O L q W P R C M) (some (.int 0)) (wD K A O L q W P R C M) := by
  refine zo (by decide) (Nat.le_of_ble_eq_true rfl) fun x Cx Rx _ => ?_
  refine zv_go Cx okX8_isBelow [] 3 ?_
  refine ⟨rfl, ?_⟩
  refine zv_callV Cx (c_has K (A 1) (A 2) (A 3) O.1 O.2.1 O.2.2.1 O.2.2.2 a) (zw_V inX4_has kX8_69 ⟨by decide, by decide⟩) [1, 2, 3] 1 rfl rfl rfl rfl (fun _ => Nat.le_refl _) rfl rfl (by decide) dzX8_isBelow_5 (by decide) (by decide) rfl (fun _ _ => ?_)
  refine zv_to Cx rfl rfl (ws' := (wD K A O L q W P R C M)) rfl ?_
  refine zv_go Cx okX8_isBelow [] 20 ?_
  refine ⟨fun h1 => ?_, fun h1 => ⟨rfl, ?_⟩⟩
  · exact zr Rx () (List.range 20) (some (.int 0)) _ rfl rfl trivial rfl rfl (Nat.zero_le _) (Nat.zero_le _) ⟨rfl, dzX8_isBelow_39⟩
  refine zv_callV Cx (c_has K (A 1) (A 2) (A 3) O.1 O.2.1 O.2.2.1 O.2.2.2 b) (zw_V inX4_has kX8_69 ⟨by decide, by decide⟩) [1, 2, 3] 1 rfl rfl rfl rfl (fun _ => Nat.le_refl _) rfl rfl (by decide) dzX8_isBelow_16 (by decide) (by decide) rfl (fun _ _ => ?_)
  refine zv_to Cx rfl rfl (ws' := (wD K A O L q W P R C M)) rfl ?_
  refine zv_go Cx okX8_isBelow [] 20 ?_
  refine ⟨fun h2 => ?_, fun h2 => ⟨rfl, ?_⟩⟩
  · exact zr Rx () (List.range 20) (some (.int 0)) _ rfl rfl trivial rfl rfl (Nat.zero_le _) (Nat.zero_le _) ⟨rfl, dzX8_isBelow_39⟩
  rw [bI_1] at h1 h2
  rcases h with h | h
  · rw [h] at h1; cases h1
  · rw [h] at h2; cases h2
set_option maxHeartbeats 4000000 in
set_option maxRecDepth 100000 in
theorem d_isBelow {i j : Nat} (hi : i < O.2.2.1) (hj : j < O.2.2.1) (hn : O.2.2.1 ≤ 14) (ha : ∀ j, O.2.1 j < 2 ^ 14) : zD K yX8_isBelow cX8_isBelow 3 (some .boolean) (zq 1 0 0 22) [.ref (A 0), .int (nI i), .int (nI j)] (wD K A O L q W P R C M) (some (.int (bI ((O.2.1 i).testBit j)))) (wD K A O L q W P R C M) := by
  refine zo (by decide) (Nat.le_of_ble_eq_true rfl) fun x Cx Rx _ => ?_
  refine zv_go Cx okX8_isBelow [] 3 ?_
  refine ⟨rfl, ?_⟩
  refine zv_callV Cx (c_has K (A 1) (A 2) (A 3) O.1 O.2.1 O.2.2.1 O.2.2.2 (nI i)) (zw_V inX4_has kX8_69 ⟨by decide, by decide⟩) [1, 2, 3] 1 rfl rfl rfl rfl (fun _ => Nat.le_refl _) rfl rfl (by decide) dzX8_isBelow_5 (by decide) (by decide) rfl (fun _ _ => ?_)
  refine zv_to Cx rfl rfl (ws' := (wD K A O L q W P R C M)) rfl ?_
  refine zv_go Cx okX8_isBelow [] 20 ?_
  refine ⟨fun h1 => ?_, fun h1 => ⟨rfl, ?_⟩⟩
  · rw [bI_0, hasb_nI (by omega) (by omega), decide_eq_false_iff_not] at h1; exact absurd hi h1
  refine zv_callV Cx (c_has K (A 1) (A 2) (A 3) O.1 O.2.1 O.2.2.1 O.2.2.2 (nI j)) (zw_V inX4_has kX8_69 ⟨by decide, by decide⟩) [1, 2, 3] 1 rfl rfl rfl rfl (fun _ => Nat.le_refl _) rfl rfl (by decide) dzX8_isBelow_16 (by decide) (by decide) rfl (fun _ _ => ?_)
  refine zv_to Cx rfl rfl (ws' := (wD K A O L q W P R C M)) rfl ?_
  refine zv_go Cx okX8_isBelow [] 20 ?_
  refine ⟨fun h1 => ?_, fun h1 => ⟨rfl, ?_⟩⟩
  · rw [bI_0, hasb_nI (by omega) (by omega), decide_eq_false_iff_not] at h1; exact absurd hj h1
  refine zv_callV Cx (c_under K (A 1) (A 2) (A 3) O.1 O.2.1 O.2.2.1 O.2.2.2 (i := i) (j := j) (by omega) (by omega) (Nat.lt_trans (ha i) (by decide))) (zw_V inX4_under kX8_73 ⟨by decide, by decide⟩) [1, 2, 3] 1 rfl rfl rfl rfl (fun _ => Nat.le_refl _) rfl rfl (by decide) dzX8_isBelow_28 (by decide) (by decide) rfl (fun _ _ => ?_)
  refine zv_to Cx rfl rfl (ws' := (wD K A O L q W P R C M)) rfl ?_
  refine zv_go Cx okX8_isBelow [] 20 ?_
  refine ⟨fun h1 => ?_, fun h1 => ?_⟩
  · rw [bI_0] at h1
    exact zr Rx () (List.range 20) (some (.int 0)) _ (by rw [h1] <;> rfl) rfl trivial rfl rfl (Nat.zero_le _) (Nat.zero_le _) ⟨rfl, dzX8_isBelow_39⟩
  · rw [bI_1] at h1
    exact zr Rx () (List.range 20) (some (.int 1)) _ (by rw [h1] <;> rfl) rfl trivial rfl rfl (Nat.zero_le _) (Nat.zero_le _) ⟨rfl, dzX8_isBelow_39⟩
set_option maxHeartbeats 4000000 in
set_option maxRecDepth 100000 in
theorem d_put_no (a b : Int32) (h : hasb O.2.2.1 a = false ∨ hasb O.2.2.1 b = false ∨ a = b ∨ ∃ i j, i < O.2.2.1 ∧ j < O.2.2.1 ∧ a = nI i ∧ b = nI j ∧ (O.2.1 j).testBit i = true) (hn : O.2.2.1 ≤ 14) (ha : ∀ j, O.2.1 j < 2 ^ 14) : zD K yX8_put cX8_put 3 (some .int) (zq 2 0 0 47) [.ref (A 0), .int a, .int b] (wD K A O L q W P R C M) (some (.int (-1))) (wD K A O L q W P R C M) := by
  refine zo (by decide) (Nat.le_of_ble_eq_true rfl) fun x Cx Rx _ => ?_
  refine zv_go Cx okX8_put [] 3 ?_
  refine ⟨rfl, ?_⟩
  refine zv_callV Cx (c_has K (A 1) (A 2) (A 3) O.1 O.2.1 O.2.2.1 O.2.2.2 a) (zw_V inX4_has kX8_69 ⟨by decide, by decide⟩) [1, 2, 3] 1 rfl rfl rfl rfl (fun _ => Nat.le_refl _) rfl rfl (by decide) dzX8_put_5 (by decide) (by decide) rfl (fun _ _ => ?_)
  refine zv_to Cx rfl rfl (ws' := (wD K A O L q W P R C M)) rfl ?_
  refine zv_go Cx okX8_put [] 20 ?_
  refine ⟨fun h1 => ?_, fun h1 => ⟨rfl, ?_⟩⟩
  · exact zr Rx () (List.range 20) (some (.int (-1))) _ rfl rfl trivial rfl rfl (Nat.zero_le _) (Nat.zero_le _) dzX8_put_40
  rw [bI_1] at h1
  refine zv_callV Cx (c_has K (A 1) (A 2) (A 3) O.1 O.2.1 O.2.2.1 O.2.2.2 b) (zw_V inX4_has kX8_69 ⟨by decide, by decide⟩) [1, 2, 3] 1 rfl rfl rfl rfl (fun _ => Nat.le_refl _) rfl rfl (by decide) dzX8_put_16 (by decide) (by decide) rfl (fun _ _ => ?_)
  refine zv_to Cx rfl rfl (ws' := (wD K A O L q W P R C M)) rfl ?_
  refine zv_go Cx okX8_put [] 20 ?_
  refine ⟨fun h2 => ?_, fun h2 => ⟨fun h3 => ?_, fun h3 => ⟨rfl, ?_⟩⟩⟩
  · exact zr Rx () (List.range 20) (some (.int (-1))) _ rfl rfl trivial rfl rfl (Nat.zero_le _) (Nat.zero_le _) dzX8_put_40
  · exact zr Rx () (List.range 20) (some (.int (-1))) _ rfl rfl trivial rfl rfl (Nat.zero_le _) (Nat.zero_le _) dzX8_put_40
  rw [bI_1] at h2
  rcases h with h | h | h | ⟨i, j, hi, hj, rfl, rfl, h⟩
  · rw [h] at h1; cases h1
  · rw [h] at h2; cases h2
  · exact absurd h h3
  · refine zv_callV Cx (c_under K (A 1) (A 2) (A 3) O.1 O.2.1 O.2.2.1 O.2.2.2 (i := j) (j := i) (by omega) (by omega) (Nat.lt_trans (ha j) (by decide))) (zw_V inX4_under kX8_73 ⟨by decide, by decide⟩) [1, 2, 3] 1 rfl rfl rfl rfl (fun _ => Nat.le_refl _) rfl rfl (by decide) dzX8_put_33 (by decide) (by decide) rfl (fun _ _ => ?_)
    refine zv_to Cx rfl rfl (ws' := (wD K A O L q W P R C M)) rfl ?_
    refine zv_go Cx okX8_put [] 20 ?_
    refine ⟨fun h4 => ?_, fun h4 => ?_⟩
    · rw [bI_0, h] at h4; cases h4
    · exact zr Rx () (List.range 20) (some (.int (-1))) _ rfl rfl trivial rfl rfl (Nat.zero_le _) (Nat.zero_le _) dzX8_put_40
set_option maxHeartbeats 4000000 in
set_option maxRecDepth 100000 in
theorem d_put {i j : Nat} (hi : i < O.2.2.1) (hj : j < O.2.2.1) (hn : O.2.2.1 ≤ 14) (hij : i ≠ j) (hno : (O.2.1 j).testBit i = false) (hb : ∀ j, O.1 j < 2 ^ 14) (ha : ∀ j, O.2.1 j < 2 ^ 14) : zD K yX8_put cX8_put 3 (some .int) (zq 2 0 0 47) [.ref (A 0), .int (nI i), .int (nI j)] (wD K A O L q W P R C M) (some (.int (nI (ocame (O.1 i ||| 2 ^ i) (O.2.1 j ||| 2 ^ j) O.2.1 O.2.2.1)))) (wD K A (orow (O.2.1 j ||| 2 ^ j) (O.1 i ||| 2 ^ i) O.1 O.2.2.1, orow (O.1 i ||| 2 ^ i) (O.2.1 j ||| 2 ^ j) O.2.1 O.2.2.1, O.2.2.1, if nI (ocame (O.1 i ||| 2 ^ i) (O.2.1 j ||| 2 ^ j) O.2.1 O.2.2.1) = 0 then O.2.2.2 else O.2.2.2 + 1) L q W P R C M) := by
  refine zo (by decide) (Nat.le_of_ble_eq_true rfl) fun x Cx Rx _ => ?_
  refine zv_go Cx okX8_put [] 3 ?_
  refine ⟨rfl, ?_⟩
  refine zv_callV Cx (c_has K (A 1) (A 2) (A 3) O.1 O.2.1 O.2.2.1 O.2.2.2 (nI i)) (zw_V inX4_has kX8_69 ⟨by decide, by decide⟩) [1, 2, 3] 1 rfl rfl rfl rfl (fun _ => Nat.le_refl _) rfl rfl (by decide) dzX8_put_5 (by decide) (by decide) rfl (fun _ _ => ?_)
  refine zv_to Cx rfl rfl (ws' := (wD K A O L q W P R C M)) rfl ?_
  refine zv_go Cx okX8_put [] 20 ?_
  refine ⟨fun h1 => ?_, fun h1 => ⟨rfl, ?_⟩⟩
  · rw [bI_0, hasb_nI (by omega) (by omega), decide_eq_false_iff_not] at h1; exact absurd hi h1
  refine zv_callV Cx (c_has K (A 1) (A 2) (A 3) O.1 O.2.1 O.2.2.1 O.2.2.2 (nI j)) (zw_V inX4_has kX8_69 ⟨by decide, by decide⟩) [1, 2, 3] 1 rfl rfl rfl rfl (fun _ => Nat.le_refl _) rfl rfl (by decide) dzX8_put_16 (by decide) (by decide) rfl (fun _ _ => ?_)
  refine zv_to Cx rfl rfl (ws' := (wD K A O L q W P R C M)) rfl ?_
  refine zv_go Cx okX8_put [] 20 ?_
  refine ⟨fun h1 => ?_, fun h1 => ⟨fun h3 => ?_, fun h3 => ⟨rfl, ?_⟩⟩⟩
  · rw [bI_0, hasb_nI (by omega) (by omega), decide_eq_false_iff_not] at h1; exact absurd hj h1
  · exact absurd ((nb_inj (by omega) (by omega)).mp h3) hij
  refine zv_callV Cx (c_under K (A 1) (A 2) (A 3) O.1 O.2.1 O.2.2.1 O.2.2.2 (i := j) (j := i) (by omega) (by omega) (Nat.lt_trans (ha j) (by decide))) (zw_V inX4_under kX8_73 ⟨by decide, by decide⟩) [1, 2, 3] 1 rfl rfl rfl rfl (fun _ => Nat.le_refl _) rfl rfl (by decide) dzX8_put_33 (by decide) (by decide) rfl (fun _ _ => ?_)
  refine zv_to Cx rfl rfl (ws' := (wD K A O L q W P R C M)) rfl ?_
  refine zv_go Cx okX8_put [] 20 ?_
  refine ⟨fun h4 => ⟨rfl, ?_⟩, fun h4 => ?_⟩
  · refine zv_callV Cx (c_tie K (A 1) (A 2) (A 3) O.1 O.2.1 O.2.2.1 O.2.2.2 (i := i) (j := j) (by omega) (by omega) hn hb ha (O.1 i ||| 2 ^ i) (O.2.1 j ||| 2 ^ j) rfl rfl) (zw_V inX4_tie kX8_77 ⟨by decide, by decide⟩) [1, 2, 3] 1 rfl rfl rfl rfl (fun _ => Nat.le_refl _) rfl rfl (by decide) dzX8_put_47 (by decide) (by decide) rfl (fun _ _ => ?_)
    exact zr Rx () (List.range 20) (some (.int _)) _ rfl rfl trivial rfl rfl (Nat.zero_le _) (Nat.zero_le _) dzX8_put_50
  · rw [bI_1, hno] at h4; cases h4
set_option maxHeartbeats 4000000 in
set_option maxRecDepth 100000 in
theorem d_chain (i : Int32) (hn : O.2.2.1 ≤ 14) (ha : ∀ j, O.2.1 j < 2 ^ 14) (hs : L.2.2.2 = O.2.2.2 → lcV O.2.1 O.2.2.1 L.2.2.1 L.2.1) : zM (S := (Nat → Int32) × (Nat → Int32)) K yX8_chain cX8_chain 2 (some .int) (zq 4 0 0 86) [.ref (A 0), .int i] (wD K A O L q W P R C M) (fun u => lcV O.2.1 O.2.2.1 (nI (plen O.2.1 O.2.2.1)) u.2) (fun _ => some (.int (chAt O.2.1 O.2.2.1 i))) (fun u => wD K A O (u.1, u.2, nI (plen O.2.1 O.2.2.1), O.2.2.2) q W P R C M) := by
  refine zo (by decide) (Nat.le_of_ble_eq_true rfl) fun x Cx Rx _ => ?_
  refine zv_go Cx okX8_chain [] 3 ?_
  refine ⟨rfl, ?_⟩
  refine zv_callV Cx (c_thingAt K (A 4) (A 1) (A 2) (A 3) (A 5) (A 6) O.1 O.2.1 O.2.2.1 O.2.2.2 L.1 L.2.1 L.2.2.1 L.2.2.2 i hn ha hs) (zw_V inX1_thingAt kX8_111 ⟨by decide, by decide⟩) [4, 1, 2, 3, 5, 6] 4 rfl rfl rfl rfl (fun _ => Nat.le_refl _) rfl rfl (by decide) dzX8_chain_5 (by decide) (by decide) rfl (fun u hu => ?_)
  exact zr Rx u (List.range 20) (some (.int _)) _ rfl rfl hu rfl rfl (Nat.zero_le _) (Nat.zero_le _) dzX8_chain_8
set_option maxHeartbeats 4000000 in
set_option maxRecDepth 100000 in
theorem d_apart (hn : O.2.2.1 ≤ 14) (ha : ∀ j, O.2.1 j < 2 ^ 14) : zM (S := zS) K yX8_apart cX8_apart 1 (some .int) (zq 20 0 0 456) [.ref (A 0)] (wD K A O L q W P R C M) (fun _ => True) (fun _ => some (.int (if W.2 = O.2.2.2 then W.1 else nI (capt O.1 O.2.1 O.2.2.1)))) (fun u => wD K A O L u ((if W.2 = O.2.2.2 then W.1 else nI (capt O.1 O.2.1 O.2.2.1)), O.2.2.2) P R C M) := by
  refine zo (by decide) (Nat.le_of_ble_eq_true rfl) fun x Cx Rx _ => ?_
  refine zv_go Cx okX8_apart [] 2 ?_
  refine ⟨rfl, ?_⟩
  refine zv_callV Cx (c_asSet K (A 9) (A 7) (A 1) (A 2) (A 3) (A 8) O.1 O.2.1 O.2.2.1 O.2.2.2 q W.1 W.2 hn ha) (zw_V inX7_asSet kX8_99 ⟨by decide, by decide⟩) [9, 7, 1, 2, 3, 8] 9 rfl rfl rfl rfl (fun _ => Nat.le_refl _) rfl rfl (by decide) dzX8_apart_4 (by decide) (by decide) rfl (fun u hu => ?_)
  exact zr Rx u (List.range 20) (some (.int _)) _ rfl rfl trivial rfl rfl (Nat.zero_le _) (Nat.zero_le _) dzX8_apart_7
set_option maxHeartbeats 4000000 in
set_option maxRecDepth 100000 in
theorem d_next_no (a : Int32) (h : hasb O.2.2.1 a = false) : zD K yX8_next cX8_next 2 (some .int) (zq 20 0 0 461) [.ref (A 0), .int a] (wD K A O L q W P R C M) (some (.int (-1))) (wD K A O L q W P R C M) := by
  refine zo (by decide) (Nat.le_of_ble_eq_true rfl) fun x Cx Rx _ => ?_
  refine zv_go Cx okX8_next [] 3 ?_
  refine ⟨rfl, ?_⟩
  refine zv_callV Cx (c_has K (A 1) (A 2) (A 3) O.1 O.2.1 O.2.2.1 O.2.2.2 a) (zw_V inX4_has kX8_69 ⟨by decide, by decide⟩) [1, 2, 3] 1 rfl rfl rfl rfl (fun _ => Nat.le_refl _) rfl rfl (by decide) dzX8_next_5 (by decide) (by decide) rfl (fun _ _ => ?_)
  refine zv_to Cx rfl rfl (ws' := (wD K A O L q W P R C M)) rfl ?_
  refine zv_go Cx okX8_next [] 20 ?_
  refine ⟨fun h1 => ?_, fun h1 => ?_⟩
  · exact zr Rx () (List.range 20) (some (.int (-1))) _ rfl rfl trivial rfl rfl (Nat.zero_le _) (Nat.zero_le _) dzX8_next_23
  · rw [bI_1, h] at h1; cases h1
set_option maxHeartbeats 4000000 in
set_option maxRecDepth 100000 in
theorem d_next {v : Nat} (hv : v < O.2.2.1) (hn : O.2.2.1 ≤ 14) (ha : ∀ j, O.2.1 j < 2 ^ 14) (hs : P.2 = O.2.2.2 → ∀ j, j < O.2.2.1 → P.1 j = oI ((lkS O.2.1 O.2.2.1 O.2.2.1).2.2 j)) : zM (S := zS × (Nat → Int32)) K yX8_next cX8_next 2 (some .int) (zq 20 0 0 461) [.ref (A 0), .int (nI v)] (wD K A O L q W P R C M) (fun u => ∀ j, j < O.2.2.1 → u.2 j = oI ((lkS O.2.1 O.2.2.1 O.2.2.1).2.2 j)) (fun _ => some (.int (oI ((lkS O.2.1 O.2.2.1 O.2.2.1).2.2 v)))) (fun u => wD K A O L u.1 W (u.2, O.2.2.2) R C M) := by
  refine zo (by decide) (Nat.le_of_ble_eq_true rfl) fun x Cx Rx _ => ?_
  refine zv_go Cx okX8_next [] 3 ?_
  refine ⟨rfl, ?_⟩
  refine zv_callV Cx (c_has K (A 1) (A 2) (A 3) O.1 O.2.1 O.2.2.1 O.2.2.2 (nI v)) (zw_V inX4_has kX8_69 ⟨by decide, by decide⟩) [1, 2, 3] 1 rfl rfl rfl rfl (fun _ => Nat.le_refl _) rfl rfl (by decide) dzX8_next_5 (by decide) (by decide) rfl (fun _ _ => ?_)
  refine zv_to Cx rfl rfl (ws' := (wD K A O L q W P R C M)) rfl ?_
  refine zv_go Cx okX8_next [] 20 ?_
  refine ⟨fun h1 => ?_, fun h1 => ⟨rfl, ?_⟩⟩
  · rw [bI_0, hasb_nI (by omega) (by omega), decide_eq_false_iff_not] at h1; exact absurd hv h1
  refine zv_callV Cx (c_nextOf K (A 10) (A 7) (A 1) (A 2) (A 3) (A 8) (A 11) O.1 O.2.1 O.2.2.1 O.2.2.2 q P.1 P.2 hv hn ha hs) (zw_V inX5_nextOf kX8_114 ⟨by decide, by decide⟩) [10, 7, 1, 2, 3, 8, 11] 10 rfl rfl rfl rfl (fun _ => Nat.le_refl _) rfl rfl (by decide) dzX8_next_16 (by decide) (by decide) rfl (fun u hu => ?_)
  refine zv_go Cx okX8_next [] 20 ?_
  exact zr Rx u (List.range 20) (some (.int _)) _ rfl rfl hu rfl rfl (Nat.zero_le _) (Nat.zero_le _) dzX8_next_23
end ZD
end
section
/-! THE DESK: rows, before, places, row, rank; cuts -/
section ZE
variable (K : zK) (A : Nat → Nat) (O : dO) (L : dL) (q : zS) (W : dW) (P : dP) (R : dR) (C : dC) (M : dM)
set_option maxHeartbeats 4000000 in
set_option maxRecDepth 100000 in
theorem d_rows (hn : O.2.2.1 ≤ 14) (hb : ∀ j, O.1 j < 2 ^ 14) (hp : pw2 R.2.2.1) (hs : R.2.2.2.2.1 = O.2.2.2 → rbV O.1 O.2.2.1 R.2.2.1 R.1 R.2.2.2.1) : zM (S := Nat × Nat × (Nat → Int64)) K yX8_rows cX8_rows 1 (some .long) (zqB 4 R.2.2.2.2.1 O.2.2.2 O.2.2.1 R.2.2.1 88) [.ref (A 0)] (wD K A O L q W P R C M) (fun u => R.2.2.2.2.1 = O.2.2.2 → u.2.2 = R.2.1) (fun _ => some (.long (rBeg O.1 O.2.2.1 (2 ^ O.2.2.1 - 1)))) (fun u => wD K (va_up (va_up A 13 u.1) 14 u.2.1) O L q W P (rBeg O.1 O.2.2.1, u.2.2, (capB R.2.2.2.2.1 O.2.2.2 O.2.2.1 R.2.2.1), nI (rIdl O.1 O.2.2.1), O.2.2.2, R.2.2.2.2.2) C M) := by
  refine zo (by decide) (Nat.le_of_ble_eq_true rfl) fun x Cx Rx _ => ?_
  refine zv_go Cx okX8_rows [] 2 ?_
  refine ⟨rfl, ?_⟩
  refine zv_callV Cx (c_total K (A 12) (A 1) (A 2) (A 3) (A 13) (A 14) O.1 O.2.1 O.2.2.1 O.2.2.2 R.1 R.2.1 R.2.2.1 R.2.2.2.1 R.2.2.2.2.1 R.2.2.2.2.2 hn hb hp hs) (zw_V inX6_total kX8_117 ⟨by show 3 + 1 ≤ 4; omega, by show 8 + (1 + 11) + 68 ≤ 88; omega⟩) [12, 1, 2, 3, 13, 14] 12 rfl rfl rfl rfl (fun _ => Nat.le_refl _) rfl rfl (by decide) dzX8_rows_4 (Nat.le_of_eq (Nat.zero_add _)) (Nat.le_of_eq (Nat.zero_add _)) rfl (fun u hu => ?_)
  exact zr Rx u (List.range 20) (some (.long _)) _ rfl rfl hu rfl rfl (Nat.le_of_eq (Nat.zero_add _)) (Nat.le_of_eq (Nat.zero_add _)) dzX8_rows_7
set_option maxHeartbeats 4000000 in
set_option maxRecDepth 100000 in
theorem d_row (k : Int64) (h1 : 1 ≤ O.2.2.1) (hn : O.2.2.1 ≤ 14) (hb : ∀ j, O.1 j < 2 ^ 14) (hp : pw2 R.2.2.1) (hs : R.2.2.2.2.1 = O.2.2.2 → rbV O.1 O.2.2.1 R.2.2.1 R.1 R.2.2.2.1) (he : R.2.2.2.2.2 = O.2.2.2 → R.2.2.2.2.1 = O.2.2.2 ∧ reV O.1 O.2.2.1 R.2.1) : zM (S := Nat × Nat × (Nat → Int64)) K yX8_row cX8_row 3 (some .long) (zqB 5 R.2.2.2.2.1 O.2.2.2 O.2.2.1 R.2.2.1 117) [.ref (A 0), .long k] (wD K A O L q W P R C M) (fun u => reV O.1 O.2.2.1 u.2.2) (fun u => some (.long (rnR O.1 O.2.2.1 u.2.2 k))) (fun u => wD K (va_up (va_up A 13 u.1) 14 u.2.1) O L q W P (rBeg O.1 O.2.2.1, u.2.2, (capB R.2.2.2.2.1 O.2.2.2 O.2.2.1 R.2.2.1), nI (rIdl O.1 O.2.2.1), O.2.2.2, O.2.2.2) C M) := by
  refine zo (by decide) (Nat.le_of_ble_eq_true rfl) fun x Cx Rx _ => ?_
  refine zv_go Cx okX8_row [] 3 ?_
  refine ⟨rfl, ?_⟩
  refine zv_callV Cx (c_rowNumbered K (A 12) (A 1) (A 2) (A 3) (A 13) (A 14) O.1 O.2.1 O.2.2.1 O.2.2.2 R.1 R.2.1 R.2.2.1 R.2.2.2.1 R.2.2.2.2.1 R.2.2.2.2.2 k h1 hn hb hp hs he) (zw_V inX6_rowNumbered kX8_130 ⟨by show 4 + 1 ≤ 5; omega, by show 8 + (10 + 11) + 88 ≤ 117; omega⟩) [12, 1, 2, 3, 13, 14] 12 rfl rfl rfl rfl (fun _ => Nat.le_refl _) rfl rfl (by decide) dzX8_row_5 (Nat.le_of_eq (Nat.zero_add _)) (Nat.le_of_eq (Nat.zero_add _)) rfl (fun u hu => ?_)
  exact zr Rx u (List.range 20) (some (.long _)) _ rfl rfl hu rfl rfl (Nat.le_of_eq (Nat.zero_add _)) (Nat.le_of_eq (Nat.zero_add _)) dzX8_row_8
set_option maxHeartbeats 4000000 in
set_option maxRecDepth 100000 in
theorem d_rank (k : Int64) (hn : O.2.2.1 ≤ 14) (hb : ∀ j, O.1 j < 2 ^ 14) (hp : pw2 R.2.2.1) (hs : R.2.2.2.2.1 = O.2.2.2 → rbV O.1 O.2.2.1 R.2.2.1 R.1 R.2.2.2.1) (he : R.2.2.2.2.2 = O.2.2.2 → R.2.2.2.2.1 = O.2.2.2 ∧ reV O.1 O.2.2.1 R.2.1) : zM (S := Nat × Nat × (Nat → Int64)) K yX8_rank cX8_rank 3 (some .long) (zqB 5 R.2.2.2.2.1 O.2.2.2 O.2.2.1 R.2.2.1 116) [.ref (A 0), .long k] (wD K A O L q W P R C M) (fun u => reV O.1 O.2.2.1 u.2.2) (fun u => some (.long (nmR O.1 O.2.2.1 u.2.2 k))) (fun u => wD K (va_up (va_up A 13 u.1) 14 u.2.1) O L q W P (rBeg O.1 O.2.2.1, u.2.2, (capB R.2.2.2.2.1 O.2.2.2 O.2.2.1 R.2.2.1), nI (rIdl O.1 O.2.2.1), O.2.2.2, O.2.2.2) C M) := by
  refine zo (by decide) (Nat.le_of_ble_eq_true rfl) fun x Cx Rx _ => ?_
  refine zv_go Cx okX8_rank [] 3 ?_
  refine ⟨rfl, ?_⟩
  refine zv_callV Cx (c_numberOf K (A 12) (A 1) (A 2) (A 3) (A 13) (A 14) O.1 O.2.1 O.2.2.1 O.2.2.2 R.1 R.2.1 R.2.2.1 R.2.2.2.1 R.2.2.2.2.1 R.2.2.2.2.2 k hn hb hp hs he) (zw_V inX6_numberOf kX8_134 ⟨by show 4 + 1 ≤ 5; omega, by show 8 + (9 + 11) + 88 ≤ 116; omega⟩) [12, 1, 2, 3, 13, 14] 12 rfl rfl rfl rfl (fun _ => Nat.le_refl _) rfl rfl (by decide) dzX8_rank_5 (Nat.le_of_eq (Nat.zero_add _)) (Nat.le_of_eq (Nat.zero_add _)) rfl (fun u hu => ?_)
  exact zr Rx u (List.range 20) (some (.long _)) _ rfl rfl hu rfl rfl (Nat.le_of_eq (Nat.zero_add _)) (Nat.le_of_eq (Nat.zero_add _)) dzX8_rank_8
set_option maxHeartbeats 4000000 in
set_option maxRecDepth 100000 in
theorem d_before_no (a b : Int32) (h : hasb O.2.2.1 a = false ∨ hasb O.2.2.1 b = false ∨ a = b) : zD K yX8_before cX8_before 3 (some .long) (zq 1 0 0 22) [.ref (A 0), .int a, .int b] (wD K A O L q W P R C M) (some (.long (-1))) (wD K A O L q W P R C M) := by
  refine zo (by decide) (Nat.le_of_ble_eq_true rfl) fun x Cx Rx _ => ?_
  refine zv_go Cx okX8_before [] 3 ?_
  refine ⟨rfl, ?_⟩
  refine zv_callV Cx (c_has K (A 1) (A 2) (A 3) O.1 O.2.1 O.2.2.1 O.2.2.2 a) (zw_V inX4_has kX8_69 ⟨by decide, by decide⟩) [1, 2, 3] 1 rfl rfl rfl rfl (fun _ => Nat.le_refl _) rfl rfl (by decide) dzX8_before_5 (by decide) (by decide) rfl (fun _ _ => ?_)
  refine zv_to Cx rfl rfl (ws' := (wD K A O L q W P R C M)) rfl ?_
  refine zv_go Cx okX8_before [] 20 ?_
  refine ⟨fun h1 => ?_, fun h1 => ⟨rfl, ?_⟩⟩
  · exact zr Rx () (List.range 20) (some (.long (-1))) _ rfl rfl trivial rfl rfl (Nat.zero_le _) (Nat.zero_le _) dzX8_before_30
  rw [bI_1] at h1
  refine zv_callV Cx (c_has K (A 1) (A 2) (A 3) O.1 O.2.1 O.2.2.1 O.2.2.2 b) (zw_V inX4_has kX8_69 ⟨by decide, by decide⟩) [1, 2, 3] 1 rfl rfl rfl rfl (fun _ => Nat.le_refl _) rfl rfl (by decide) dzX8_before_16 (by decide) (by decide) rfl (fun _ _ => ?_)
  refine zv_to Cx rfl rfl (ws' := (wD K A O L q W P R C M)) rfl ?_
  refine zv_go Cx okX8_before [] 20 ?_
  refine ⟨fun h2 => ?_, fun h2 => ⟨fun h3 => ⟨rfl, ?_⟩, fun h3 => ?_⟩⟩
  · exact zr Rx () (List.range 20) (some (.long (-1))) _ rfl rfl trivial rfl rfl (Nat.zero_le _) (Nat.zero_le _) dzX8_before_30
  · rw [bI_1] at h2
    rcases h with h | h | h
    · rw [h] at h1; cases h1
    · rw [h] at h2; cases h2
    · exact absurd h h3
  · exact zr Rx () (List.range 20) (some (.long (-1))) _ rfl rfl trivial rfl rfl (Nat.zero_le _) (Nat.zero_le _) dzX8_before_30
set_option maxHeartbeats 4000000 in
set_option maxRecDepth 100000 in
theorem d_before {i j : Nat} (hi : i < O.2.2.1) (hj : j < O.2.2.1) (hij : i ≠ j) (hn : O.2.2.1 ≤ 14) (hb : ∀ j, O.1 j < 2 ^ 14) (hp : pw2 R.2.2.1) (hs : R.2.2.2.2.1 = O.2.2.2 → rbV O.1 O.2.2.1 R.2.2.1 R.1 R.2.2.2.1) (he : R.2.2.2.2.2 = O.2.2.2 → R.2.2.2.2.1 = O.2.2.2 ∧ reV O.1 O.2.2.1 R.2.1) : zM (S := Nat × Nat × (Nat → Int64)) K yX8_before cX8_before 3 (some .long) (zqB 5 R.2.2.2.2.1 O.2.2.2 O.2.2.1 R.2.2.1 114) [.ref (A 0), .int (nI i), .int (nI j)] (wD K A O L q W P R C M) (fun u => reV O.1 O.2.2.1 u.2.2) (fun u => some (.long (rwf O.1 (rBeg O.1 O.2.2.1) u.2.2 i j (2 ^ O.2.2.1)))) (fun u => wD K (va_up (va_up A 13 u.1) 14 u.2.1) O L q W P (rBeg O.1 O.2.2.1, u.2.2, (capB R.2.2.2.2.1 O.2.2.2 O.2.2.1 R.2.2.1), nI (rIdl O.1 O.2.2.1), O.2.2.2, O.2.2.2) C M) := by
  refine zo (by decide) (Nat.le_of_ble_eq_true rfl) fun x Cx Rx _ => ?_
  refine zv_go Cx okX8_before [] 3 ?_
  refine ⟨rfl, ?_⟩
  refine zv_callV Cx (c_has K (A 1) (A 2) (A 3) O.1 O.2.1 O.2.2.1 O.2.2.2 (nI i)) (zw_V inX4_has kX8_69 ⟨by show 0 + 1 ≤ 5; omega, by show 8 + (2 + 11) + 0 ≤ 114; omega⟩) [1, 2, 3] 1 rfl rfl rfl rfl (fun _ => Nat.le_refl _) rfl rfl (by decide) dzX8_before_5 (Nat.zero_le _) (Nat.zero_le _) rfl (fun _ _ => ?_)
  refine zv_to Cx rfl rfl (ws' := (wD K A O L q W P R C M)) rfl ?_
  refine zv_go Cx okX8_before [] 20 ?_
  refine ⟨fun h1 => ?_, fun h1 => ⟨rfl, ?_⟩⟩
  · rw [bI_0, hasb_nI (by omega) (by omega), decide_eq_false_iff_not] at h1; exact absurd hi h1
  refine zv_callV Cx (c_has K (A 1) (A 2) (A 3) O.1 O.2.1 O.2.2.1 O.2.2.2 (nI j)) (zw_V inX4_has kX8_69 ⟨by show 0 + 1 ≤ 5; omega, by show 8 + (2 + 11) + 0 ≤ 114; omega⟩) [1, 2, 3] 1 rfl rfl rfl rfl (fun _ => Nat.le_refl _) rfl rfl (by decide) dzX8_before_16 (Nat.zero_le _) (Nat.zero_le _) rfl (fun _ _ => ?_)
  refine zv_to Cx rfl rfl (ws' := (wD K A O L q W P R C M)) rfl ?_
  refine zv_go Cx okX8_before [] 20 ?_
  refine ⟨fun h1 => ?_, fun h1 => ⟨fun h3 => ⟨rfl, ?_⟩, fun h3 => ?_⟩⟩
  · rw [bI_0, hasb_nI (by omega) (by omega), decide_eq_false_iff_not] at h1; exact absurd hj h1
  · refine zv_callV Cx (c_rowsWithFirst K (A 12) (A 1) (A 2) (A 3) (A 13) (A 14) O.1 O.2.1 O.2.2.1 O.2.2.2 R.1 R.2.1 R.2.2.1 R.2.2.2.1 R.2.2.2.2.1 R.2.2.2.2.2 hi hj hn hb hp hs he) (zw_V inX6_rowsWithFirst kX8_123 ⟨by show 4 + 1 ≤ 5; omega, by show 8 + (7 + 11) + 88 ≤ 114; omega⟩) [12, 1, 2, 3, 13, 14] 12 rfl rfl rfl rfl (fun _ => Nat.le_refl _) rfl rfl (by decide) dzX8_before_37 (Nat.le_of_eq (Nat.zero_add _)) (Nat.le_of_eq (Nat.zero_add _)) rfl (fun u hu => ?_)
    exact zr Rx u (List.range 20) (some (.long _)) _ rfl rfl hu rfl rfl (Nat.le_of_eq (Nat.zero_add _)) (Nat.le_of_eq (Nat.zero_add _)) dzX8_before_40
  · exact absurd ((nb_inj (by omega) (by omega)).mp h3) hij
set_option maxHeartbeats 4000000 in
set_option maxRecDepth 100000 in
theorem d_places_no (a b : Int32) (h : hasb O.2.2.1 a = false ∨ hasb O.2.2.1 b = false) : zD K yX8_places cX8_places 3 (some .long) (zq 1 0 0 22) [.ref (A 0), .int a, .int b] (wD K A O L q W P R C M) (some (.long (-1))) (wD K A O L q W P R C M) := by
  refine zo (by decide) (Nat.le_of_ble_eq_true rfl) fun x Cx Rx _ => ?_
  refine zv_go Cx okX8_places [] 3 ?_
  refine ⟨rfl, ?_⟩
  refine zv_callV Cx (c_has K (A 1) (A 2) (A 3) O.1 O.2.1 O.2.2.1 O.2.2.2 a) (zw_V inX4_has kX8_69 ⟨by decide, by decide⟩) [1, 2, 3] 1 rfl rfl rfl rfl (fun _ => Nat.le_refl _) rfl rfl (by decide) dzX8_places_5 (by decide) (by decide) rfl (fun _ _ => ?_)
  refine zv_to Cx rfl rfl (ws' := (wD K A O L q W P R C M)) rfl ?_
  refine zv_go Cx okX8_places [] 20 ?_
  refine ⟨fun h1 => ?_, fun h1 => ⟨fun h2 => ?_, fun h2 => ⟨rfl, rfl, fun h3 => ?_, fun h3 => ?_⟩⟩⟩
  · exact zr Rx () (List.range 20) (some (.long (-1))) _ rfl rfl trivial rfl rfl (Nat.zero_le _) (Nat.zero_le _) dzX8_places_29
  · exact zr Rx () (List.range 20) (some (.long (-1))) _ rfl rfl trivial rfl rfl (Nat.zero_le _) (Nat.zero_le _) dzX8_places_29
  · rw [bI_1] at h1
    rcases h with h | h
    · rw [h] at h1; cases h1
    · have hq : hasb O.2.2.1 b = true := decide_eq_true ⟨Int32.not_lt.mp h2, h3⟩
      rw [h] at hq; cases hq
  · exact zr Rx () (List.range 20) (some (.long (-1))) _ rfl rfl trivial rfl rfl (Nat.zero_le _) (Nat.zero_le _) dzX8_places_29
set_option maxHeartbeats 4000000 in
set_option maxRecDepth 100000 in
theorem d_places {i j : Nat} (hi : i < O.2.2.1) (hj : j < O.2.2.1) (hn : O.2.2.1 ≤ 14) (hb : ∀ j, O.1 j < 2 ^ 14) (hp : pw2 R.2.2.1) (hs : R.2.2.2.2.1 = O.2.2.2 → rbV O.1 O.2.2.1 R.2.2.1 R.1 R.2.2.2.1) (he : R.2.2.2.2.2 = O.2.2.2 → R.2.2.2.2.1 = O.2.2.2 ∧ reV O.1 O.2.2.1 R.2.1) : zM (S := Nat × Nat × (Nat → Int64)) K yX8_places cX8_places 3 (some .long) (zqB 5 R.2.2.2.2.1 O.2.2.2 O.2.2.1 R.2.2.1 114) [.ref (A 0), .int (nI i), .int (nI j)] (wD K A O L q W P R C M) (fun u => reV O.1 O.2.2.1 u.2.2) (fun u => some (.long (rwp O.1 (rBeg O.1 O.2.2.1) u.2.2 i j (2 ^ O.2.2.1)))) (fun u => wD K (va_up (va_up A 13 u.1) 14 u.2.1) O L q W P (rBeg O.1 O.2.2.1, u.2.2, (capB R.2.2.2.2.1 O.2.2.2 O.2.2.1 R.2.2.1), nI (rIdl O.1 O.2.2.1), O.2.2.2, O.2.2.2) C M) := by
  refine zo (by decide) (Nat.le_of_ble_eq_true rfl) fun x Cx Rx _ => ?_
  refine zv_go Cx okX8_places [] 3 ?_
  refine ⟨rfl, ?_⟩
  refine zv_callV Cx (c_has K (A 1) (A 2) (A 3) O.1 O.2.1 O.2.2.1 O.2.2.2 (nI i)) (zw_V inX4_has kX8_69 ⟨by show 0 + 1 ≤ 5; omega, by show 8 + (2 + 11) + 0 ≤ 114; omega⟩) [1, 2, 3] 1 rfl rfl rfl rfl (fun _ => Nat.le_refl _) rfl rfl (by decide) dzX8_places_5 (Nat.zero_le _) (Nat.zero_le _) rfl (fun _ _ => ?_)
  refine zv_to Cx rfl rfl (ws' := (wD K A O L q W P R C M)) rfl ?_
  refine zv_go Cx okX8_places [] 20 ?_
  refine ⟨fun h1 => ?_, fun h1 => ⟨fun h2 => absurd h2 (nI_pos (by omega)), fun h2 => ⟨rfl, rfl, fun h3 => ⟨rfl, ?_⟩, fun h3 => absurd (nI_lt hj (by omega)) h3⟩⟩⟩
  · rw [bI_0, hasb_nI (by omega) (by omega), decide_eq_false_iff_not] at h1; exact absurd hi h1
  refine zv_callV Cx (c_rowsWithPlace K (A 12) (A 1) (A 2) (A 3) (A 13) (A 14) O.1 O.2.1 O.2.2.1 O.2.2.2 R.1 R.2.1 R.2.2.1 R.2.2.2.1 R.2.2.2.2.1 R.2.2.2.2.2 hi hj hn hb hp hs he) (zw_V inX6_rowsWithPlace kX8_127 ⟨by show 4 + 1 ≤ 5; omega, by show 8 + (7 + 11) + 88 ≤ 114; omega⟩) [12, 1, 2, 3, 13, 14] 12 rfl rfl rfl rfl (fun _ => Nat.le_refl _) rfl rfl (by decide) dzX8_places_36 (Nat.le_of_eq (Nat.zero_add _)) (Nat.le_of_eq (Nat.zero_add _)) rfl (fun u hu => ?_)
  exact zr Rx u (List.range 20) (some (.long _)) _ rfl rfl hu rfl rfl (Nat.le_of_eq (Nat.zero_add _)) (Nat.le_of_eq (Nat.zero_add _)) dzX8_places_39
end ZE
end
section
theorem capR_same (ver : Int32) (bl ab : Nat → Nat) (n cap : Nat) : capR ver ver bl ab n cap = cap := if_pos rfl
/-- the list of cuts is fresh: has, numberOfLeast -/
theorem c_clHas1 (K : zK) (c o b a y : Nat) (bl ab : Nat → Nat) (n : Nat) (ver : Int32) (sf : Nat → Int32) (cap : Nat) (len k : Int32) (hn : n ≤ 14) (h0 : 0 < cap) (hcap : cap ≤ 32768) (hs : clV bl ab n len sf) :
    zM (S := Nat × (Nat → Int32)) K yX0_has cX0_has 2 (some .boolean) (zq 5 0 0 146) [.ref c, .int k] (wC K c o b a y bl ab n ver sf cap len ver) (fun u => clV bl ab n (nI (cstop bl ab n + 1)) u.2) (fun _ => some (.int (bI (hasb (cstop bl ab n + 1) k)))) (fun u => wC K c o b a u.1 bl ab n ver u.2 cap (nI (cstop bl ab n + 1)) ver) := by
  have h : zM (S := Nat × (Nat → Int32)) K yX0_has cX0_has 2 (some .boolean) (zq 5 (capR ver ver bl ab n cap - cap) (2 * (capR ver ver bl ab n cap - cap)) 146) [.ref c, .int k] (wC K c o b a y bl ab n ver sf cap len ver) (fun u => clV bl ab n (nI (cstop bl ab n + 1)) u.2) (fun _ => some (.int (bI (hasb (cstop bl ab n + 1) k)))) (fun u => wC K c o b a u.1 bl ab n ver u.2 (capR ver ver bl ab n cap) (nI (cstop bl ab n + 1)) ver) := c_clHas K c o b a y bl ab n ver sf cap len ver k hn h0 hcap (fun _ => hs)
  rw [capR_same, Nat.sub_self] at h
  exact h
theorem c_numberOfLeast1 (K : zK) (c o b a y : Nat) (bl ab : Nat → Nat) (n : Nat) (ver : Int32) (sf : Nat → Int32) (cap : Nat) (len : Int32) {s : Nat} (hls : s < 2 ^ 14) (hn : n ≤ 14) (h0 : 0 < cap) (hcap : cap ≤ 32768) (hs : clV bl ab n len sf) (hge : cstop bl ab n + 1 ≤ cap) :
    zM (S := Nat × (Nat → Int32)) K yX0_numberOfLeast cX0_numberOfLeast 4 (some .int) (zq 5 0 0 146) [.ref c, .int (nI s)] (wC K c o b a y bl ab n ver sf cap len ver) (fun u => clV bl ab n (nI (cstop bl ab n + 1)) u.2) (fun _ => some (.int (oI (nol bl ab n (clo bl ab n s) (cstop bl ab n + 1))))) (fun u => wC K c o b a u.1 bl ab n ver u.2 cap (nI (cstop bl ab n + 1)) ver) := by
  have h : zM (S := Nat × (Nat → Int32)) K yX0_numberOfLeast cX0_numberOfLeast 4 (some .int) (zq 5 (capR ver ver bl ab n cap - cap) (2 * (capR ver ver bl ab n cap - cap)) 146) [.ref c, .int (nI s)] (wC K c o b a y bl ab n ver sf cap len ver) (fun u => clV bl ab n (nI (cstop bl ab n + 1)) u.2) (fun _ => some (.int (oI (nol bl ab n (clo bl ab n s) (cstop bl ab n + 1))))) (fun u => wC K c o b a u.1 bl ab n ver u.2 (capR ver ver bl ab n cap) (nI (cstop bl ab n + 1)) ver) := c_numberOfLeast K c o b a y bl ab n ver sf cap len ver hls hn h0 hcap (fun _ => ⟨hs, hge⟩)
  rw [capR_same, Nat.sub_self] at h
  exact h
theorem capR_sameX (ver : Int32) (bl ab : Nat → Nat) (n cap : Nat) : capR ver ver bl ab n cap = cap := if_pos rfl
/-! THE DESK: cut, least, joined -/
section ZF
variable (K : zK) (A : Nat → Nat) (O : dO) (L : dL) (q : zS) (W : dW) (P : dP) (R : dR) (C : dC) (M : dM)
set_option maxHeartbeats 4000000 in
set_option maxRecDepth 100000 in
theorem d_cut_no (k : Int32) (h : hasb (cstop O.1 O.2.1 O.2.2.1 + 1) k = false) (hn : O.2.2.1 ≤ 14) (h0 : 0 < C.2.1) (hcap : C.2.1 ≤ 32768) (hs : C.2.2.2 = O.2.2.2 → clV O.1 O.2.1 O.2.2.1 C.2.2.1 C.1 ∧ cstop O.1 O.2.1 O.2.2.1 + 1 ≤ C.2.1) : zM (S := Nat × (Nat → Int32)) K yX8_cut cX8_cut 2 (some .int) (zqC 6 C.2.2.2 O.2.2.2 O.1 O.2.1 O.2.2.1 C.2.1 167) [.ref (A 0), .int k] (wD K A O L q W P R C M) (fun u => clV O.1 O.2.1 O.2.2.1 (nI (cstop O.1 O.2.1 O.2.2.1 + 1)) u.2) (fun _ => some (.int (-1))) (fun u => (wD K (va_up A 16 u.1) O L q W P R (u.2, (capR C.2.2.2 O.2.2.2 O.1 O.2.1 O.2.2.1 C.2.1), nI (cstop O.1 O.2.1 O.2.2.1 + 1), O.2.2.2) M)) := by
  refine zo (by decide) (Nat.le_of_ble_eq_true rfl) fun x Cx Rx _ => ?_
  refine zv_go Cx okX8_cut [] 3 ?_
  refine ⟨rfl, ?_⟩
  refine zv_callV Cx (c_clHas K (A 15) (A 1) (A 2) (A 3) (A 16) O.1 O.2.1 O.2.2.1 O.2.2.2 C.1 C.2.1 C.2.2.1 C.2.2.2 k hn h0 hcap (fun z => (hs z).1)) (zw_V inX0_has kX8_137 ⟨by show 5 + 1 ≤ 6; omega, by show 8 + (2 + 11) + 146 ≤ 167; omega⟩) [15, 1, 2, 3, 16] 15 rfl rfl rfl rfl (fun _ => Nat.le_refl _) rfl rfl (by decide) dzX8_cut_5 (Nat.le_of_eq (Nat.zero_add _)) (Nat.le_of_eq (Nat.zero_add _)) rfl (fun u hu => ?_)
  refine zv_to Cx rfl rfl (ws' := (wD K (va_up A 16 u.1) O L q W P R (u.2, (capR C.2.2.2 O.2.2.2 O.1 O.2.1 O.2.2.1 C.2.1), nI (cstop O.1 O.2.1 O.2.2.1 + 1), O.2.2.2) M)) rfl ?_
  refine zv_wide Cx (ce' := (capR C.2.2.2 O.2.2.2 O.1 O.2.1 O.2.2.1 C.2.1) - C.2.1) (sl' := 2 * ((capR C.2.2.2 O.2.2.2 O.1 O.2.1 O.2.2.1 C.2.1) - C.2.1)) (Nat.le_of_eq (Nat.zero_add _)) (Nat.le_of_eq (Nat.zero_add _)) ?_
  refine zv_go Cx okX8_cut [] 20 ?_
  refine ⟨fun h1 => ?_, fun h1 => ?_⟩
  · exact zr Rx u (List.range 20) (some (.int (-1))) _ rfl rfl hu rfl rfl (Nat.le_refl _) (Nat.le_refl _) dzX8_cut_23
  · rw [bI_1, h] at h1; cases h1
set_option maxHeartbeats 4000000 in
set_option maxRecDepth 100000 in
theorem d_cut {j : Nat} (hj : j ≤ cstop O.1 O.2.1 O.2.2.1) (hn : O.2.2.1 ≤ 14) (h0 : 0 < C.2.1) (hcap : C.2.1 ≤ 32768) (hs : C.2.2.2 = O.2.2.2 → clV O.1 O.2.1 O.2.2.1 C.2.2.1 C.1 ∧ cstop O.1 O.2.1 O.2.2.1 + 1 ≤ C.2.1) : zM (S := Nat × (Nat → Int32)) K yX8_cut cX8_cut 2 (some .int) (zqC 6 C.2.2.2 O.2.2.2 O.1 O.2.1 O.2.2.1 C.2.1 167) [.ref (A 0), .int (nI j)] (wD K A O L q W P R C M) (fun u => clV O.1 O.2.1 O.2.2.1 (nI (cstop O.1 O.2.1 O.2.2.1 + 1)) u.2) (fun _ => some (.int (nI (cutv O.1 O.2.1 O.2.2.1 j)))) (fun u => (wD K (va_up A 16 u.1) O L q W P R (u.2, (capR C.2.2.2 O.2.2.2 O.1 O.2.1 O.2.2.1 C.2.1), nI (cstop O.1 O.2.1 O.2.2.1 + 1), O.2.2.2) M)) := by
  refine zo (by decide) (Nat.le_of_ble_eq_true rfl) fun x Cx Rx _ => ?_
  have hge := capR_ge hn h0 hcap (fun z => (hs z).2)
  have hhi := capR_hi C.2.2.2 O.2.2.2 O.1 O.2.1 hn h0 hcap
  have hst := cstop_le O.1 O.2.1 O.2.2.1
  have hall := nb_all_lt hn
  refine zv_go Cx okX8_cut [] 3 ?_
  refine ⟨rfl, ?_⟩
  refine zv_callV Cx (c_clHas K (A 15) (A 1) (A 2) (A 3) (A 16) O.1 O.2.1 O.2.2.1 O.2.2.2 C.1 C.2.1 C.2.2.1 C.2.2.2 (nI j) hn h0 hcap (fun z => (hs z).1)) (zw_V inX0_has kX8_137 ⟨by show 5 + 1 ≤ 6; omega, by show 8 + (2 + 11) + 146 ≤ 167; omega⟩) [15, 1, 2, 3, 16] 15 rfl rfl rfl rfl (fun _ => Nat.le_refl _) rfl rfl (by decide) dzX8_cut_5 (Nat.le_of_eq (Nat.zero_add _)) (Nat.le_of_eq (Nat.zero_add _)) rfl (fun u hu => ?_)
  refine zv_to Cx rfl rfl (ws' := (wD K (va_up A 16 u.1) O L q W P R (u.2, (capR C.2.2.2 O.2.2.2 O.1 O.2.1 O.2.2.1 C.2.1), nI (cstop O.1 O.2.1 O.2.2.1 + 1), O.2.2.2) M)) rfl ?_
  refine zv_wide Cx (ce' := (capR C.2.2.2 O.2.2.2 O.1 O.2.1 O.2.2.1 C.2.1) - C.2.1) (sl' := 2 * ((capR C.2.2.2 O.2.2.2 O.1 O.2.1 O.2.2.1 C.2.1) - C.2.1)) (Nat.le_of_eq (Nat.zero_add _)) (Nat.le_of_eq (Nat.zero_add _)) ?_
  refine zv_go Cx okX8_cut [] 20 ?_
  refine ⟨fun h1 => ?_, fun h1 => ⟨rfl, ?_⟩⟩
  · rw [bI_0, hasb_nI (by omega) (by omega), decide_eq_false_iff_not] at h1; exact absurd (by omega) h1
  refine zv_callV Cx (c_setOf K (A 15) (A 1) (A 2) (A 3) u.1 O.1 O.2.1 O.2.2.1 O.2.2.2 u.2 (capR C.2.2.2 O.2.2.2 O.1 O.2.1 O.2.2.1 C.2.1) (nI (cstop O.1 O.2.1 O.2.2.1 + 1)) O.2.2.2 (k := j) (by omega) hhi) (zw_V inX0_setOf kX8_138 ⟨by show 0 + 1 ≤ 6; omega, by show 8 + (2 + 11) + 0 ≤ 167; omega⟩) [15, 1, 2, 3, 16] 15 rfl rfl rfl rfl (fun _ => Nat.le_refl _) rfl rfl (by decide) dzX8_cut_16 (Nat.le_refl _) (Nat.le_refl _) rfl (fun _ _ => ?_)
  refine zv_to Cx rfl rfl (ws' := (wD K (va_up A 16 u.1) O L q W P R (u.2, (capR C.2.2.2 O.2.2.2 O.1 O.2.1 O.2.2.1 C.2.1), nI (cstop O.1 O.2.1 O.2.2.1 + 1), O.2.2.2) M)) rfl ?_
  refine zv_go Cx okX8_cut [] 20 ?_
  exact zr Rx u (List.range 20) (some (.int _)) _ (by rw [hu.2 j hj]) rfl hu rfl rfl (Nat.le_refl _) (Nat.le_refl _) dzX8_cut_23
set_option maxHeartbeats 4000000 in
set_option maxRecDepth 100000 in
theorem d_least_no (v : Int32) (h : ¬ v &&& (nI (2 ^ O.2.2.1 - 1) ^^^ (-1)) = 0) (hn : O.2.2.1 ≤ 14) : zD K yX8_least cX8_least 2 (some .int) (zq 1 0 0 22) [.ref (A 0), .int v] (wD K A O L q W P R C M) (some (.int (-1))) (wD K A O L q W P R C M) := by
  refine zo (by decide) (Nat.le_of_ble_eq_true rfl) fun x Cx Rx _ => ?_
  refine zv_go Cx okX8_least [] 3 ?_
  refine ⟨rfl, ?_⟩
  refine zv_callV Cx (c_all K (A 1) (A 2) (A 3) O.1 O.2.1 O.2.2.1 O.2.2.2 hn) (zw_V inX4_all kX8_141 ⟨by decide, by decide⟩) [1, 2, 3] 1 rfl rfl rfl rfl (fun _ => Nat.le_refl _) (rest := [.int v]) rfl rfl (Nat.le_of_ble_eq_true rfl) dzX8_least_5 (by decide) (by decide) rfl (fun _ _ => ?_)
  refine zv_to Cx rfl rfl (ws' := (wD K A O L q W P R C M)) rfl ?_
  refine zv_go Cx okX8_least [] 20 ?_
  refine ⟨fun h1 => absurd h1 h, fun h1 => ?_⟩
  exact zr Rx () (List.range 20) (some (.int (-1))) _ rfl rfl trivial rfl rfl (Nat.zero_le _) (Nat.zero_le _) dzX8_least_15
set_option maxHeartbeats 4000000 in
set_option maxRecDepth 100000 in
theorem d_least {s : Nat} (hsl : s < 2 ^ 14) (hsub : ndf s (2 ^ O.2.2.1 - 1) = 0) (hn : O.2.2.1 ≤ 14) (h0 : 0 < C.2.1) (hcap : C.2.1 ≤ 32768) (hs : C.2.2.2 = O.2.2.2 → clV O.1 O.2.1 O.2.2.1 C.2.2.1 C.1 ∧ cstop O.1 O.2.1 O.2.2.1 + 1 ≤ C.2.1) : zM (S := Nat × (Nat → Int32)) K yX8_least cX8_least 2 (some .int) (zqC 6 C.2.2.2 O.2.2.2 O.1 O.2.1 O.2.2.1 C.2.1 169) [.ref (A 0), .int (nI s)] (wD K A O L q W P R C M) (fun u => clV O.1 O.2.1 O.2.2.1 (nI (cstop O.1 O.2.1 O.2.2.1 + 1)) u.2) (fun _ => some (.int (oI (nol O.1 O.2.1 O.2.2.1 (clo O.1 O.2.1 O.2.2.1 s) (cstop O.1 O.2.1 O.2.2.1 + 1))))) (fun u => (wD K (va_up A 16 u.1) O L q W P R (u.2, (capR C.2.2.2 O.2.2.2 O.1 O.2.1 O.2.2.1 C.2.1), nI (cstop O.1 O.2.1 O.2.2.1 + 1), O.2.2.2) M)) := by
  refine zo (by decide) (Nat.le_of_ble_eq_true rfl) fun x Cx Rx _ => ?_
  refine zv_go Cx okX8_least [] 3 ?_
  refine ⟨rfl, ?_⟩
  refine zv_callV Cx (c_all K (A 1) (A 2) (A 3) O.1 O.2.1 O.2.2.1 O.2.2.2 hn) (zw_V inX4_all kX8_141 ⟨by show 0 + 1 ≤ 6; omega, by show 8 + (1 + 11) + 0 ≤ 169; omega⟩) [1, 2, 3] 1 rfl rfl rfl rfl (fun _ => Nat.le_refl _) (rest := [.int (nI s)]) rfl rfl (Nat.le_of_ble_eq_true rfl) dzX8_least_5 (Nat.zero_le _) (Nat.zero_le _) rfl (fun _ _ => ?_)
  refine zv_to Cx rfl rfl (ws' := (wD K A O L q W P R C M)) rfl ?_
  refine zv_go Cx okX8_least [] 20 ?_
  refine ⟨fun h1 => ⟨rfl, ?_⟩, fun h1 => ?_⟩
  · refine zv_callV Cx (c_numberOfLeast K (A 15) (A 1) (A 2) (A 3) (A 16) O.1 O.2.1 O.2.2.1 O.2.2.2 C.1 C.2.1 C.2.2.1 C.2.2.2 (s := s) hsl hn h0 hcap hs) (zw_V inX0_numberOfLeast kX8_144 ⟨by show 5 + 1 ≤ 6; omega, by show 8 + (4 + 11) + 146 ≤ 169; omega⟩) [15, 1, 2, 3, 16] 15 rfl rfl rfl rfl (fun _ => Nat.le_refl _) rfl rfl (by decide) dzX8_least_21 (Nat.le_of_eq (Nat.zero_add _)) (Nat.le_of_eq (Nat.zero_add _)) rfl (fun u hu => ?_)
    exact zr Rx u (List.range 20) (some (.int _)) _ rfl rfl hu rfl rfl (Nat.le_of_eq (Nat.zero_add _)) (Nat.le_of_eq (Nat.zero_add _)) dzX8_least_24
  · rw [nb_not, hsub] at h1; exact absurd rfl h1
set_option maxHeartbeats 4000000 in
set_option maxRecDepth 100000 in
theorem d_joined_no (k l me : Int32) (h : hasb (cstop O.1 O.2.1 O.2.2.1 + 1) k = false ∨ hasb (cstop O.1 O.2.1 O.2.2.1 + 1) l = false) (hn : O.2.2.1 ≤ 14) (h0 : 0 < C.2.1) (hcap : C.2.1 ≤ 32768) (hs : C.2.2.2 = O.2.2.2 → clV O.1 O.2.1 O.2.2.1 C.2.2.1 C.1 ∧ cstop O.1 O.2.1 O.2.2.1 + 1 ≤ C.2.1) : zM (S := Nat × (Nat → Int32)) K yX8_joined cX8_joined 6 (some .int) (zqC 6 C.2.2.2 O.2.2.2 O.1 O.2.1 O.2.2.1 C.2.1 169) [.ref (A 0), .int k, .int l, .int me] (wD K A O L q W P R C M) (fun u => clV O.1 O.2.1 O.2.2.1 (nI (cstop O.1 O.2.1 O.2.2.1 + 1)) u.2) (fun _ => some (.int (-1))) (fun u => (wD K (va_up A 16 u.1) O L q W P R (u.2, (capR C.2.2.2 O.2.2.2 O.1 O.2.1 O.2.2.1 C.2.1), nI (cstop O.1 O.2.1 O.2.2.1 + 1), O.2.2.2) M)) := by
  refine zo (by decide) (Nat.le_of_ble_eq_true rfl) fun x Cx Rx _ => ?_
  have hge := capR_ge hn h0 hcap (fun z => (hs z).2)
  have hhi := capR_hi C.2.2.2 O.2.2.2 O.1 O.2.1 hn h0 hcap
  have hst := cstop_le O.1 O.2.1 O.2.2.1
  have hall := nb_all_lt hn
  have hpos : 0 < 2 ^ O.2.2.1 := Nat.two_pow_pos _
  refine zv_go Cx okX8_joined [] 3 ?_
  refine ⟨rfl, ?_⟩
  refine zv_callV Cx (c_clHas K (A 15) (A 1) (A 2) (A 3) (A 16) O.1 O.2.1 O.2.2.1 O.2.2.2 C.1 C.2.1 C.2.2.1 C.2.2.2 k hn h0 hcap (fun z => (hs z).1)) (zw_V inX0_has kX8_137 ⟨by show 5 + 1 ≤ 6; omega, by show 8 + (2 + 11) + 146 ≤ 169; omega⟩) [15, 1, 2, 3, 16] 15 rfl rfl rfl rfl (fun _ => Nat.le_refl _) rfl rfl (by decide) dzX8_joined_5 (Nat.le_of_eq (Nat.zero_add _)) (Nat.le_of_eq (Nat.zero_add _)) rfl (fun u hu => ?_)
  refine zv_to Cx rfl rfl (ws' := (wD K (va_up A 16 u.1) O L q W P R (u.2, (capR C.2.2.2 O.2.2.2 O.1 O.2.1 O.2.2.1 C.2.1), nI (cstop O.1 O.2.1 O.2.2.1 + 1), O.2.2.2) M)) rfl ?_
  refine zv_wide Cx (ce' := (capR C.2.2.2 O.2.2.2 O.1 O.2.1 O.2.2.1 C.2.1) - C.2.1) (sl' := 2 * ((capR C.2.2.2 O.2.2.2 O.1 O.2.1 O.2.2.1 C.2.1) - C.2.1)) (Nat.le_of_eq (Nat.zero_add _)) (Nat.le_of_eq (Nat.zero_add _)) ?_
  refine zv_go Cx okX8_joined [] 20 ?_
  refine ⟨fun h1 => ?_, fun h1 => ⟨rfl, ?_⟩⟩
  · exact zr Rx u (List.range 20) (some (.int (-1))) _ rfl rfl hu rfl rfl (Nat.le_refl _) (Nat.le_refl _) dzX8_joined_23
  rw [bI_1] at h1
  refine zv_callV Cx (c_clHas1 K (A 15) (A 1) (A 2) (A 3) u.1 O.1 O.2.1 O.2.2.1 O.2.2.2 u.2 (capR C.2.2.2 O.2.2.2 O.1 O.2.1 O.2.2.1 C.2.1) (nI (cstop O.1 O.2.1 O.2.2.1 + 1)) l hn (by omega) hhi hu) (zw_V inX0_has kX8_137 ⟨by show 5 + 1 ≤ 6; omega, by show 8 + (2 + 11) + 146 ≤ 169; omega⟩) [15, 1, 2, 3, 16] 15 rfl rfl rfl rfl (fun _ => Nat.le_refl _) rfl rfl (by decide) dzX8_joined_16 (Nat.le_refl _) (Nat.le_refl _) rfl (fun w hw => ?_)
  refine zv_to Cx rfl rfl (ws' := (wD K (va_up A 16 w.1) O L q W P R (w.2, (capR C.2.2.2 O.2.2.2 O.1 O.2.1 O.2.2.1 C.2.1), nI (cstop O.1 O.2.1 O.2.2.1 + 1), O.2.2.2) M)) rfl ?_
  refine zv_go Cx okX8_joined [] 20 ?_
  refine ⟨fun h2 => ?_, fun h2 => ?_⟩
  · rw [bI_1] at h2
    rcases h with h | h
    · rw [h] at h1; cases h1
    · rw [h] at h2; cases h2
  · exact zr Rx w (List.range 20) (some (.int (-1))) _ rfl rfl hw rfl rfl (Nat.le_refl _) (Nat.le_refl _) dzX8_joined_23
set_option maxHeartbeats 4000000 in
set_option maxRecDepth 100000 in
theorem d_joined {i j : Nat} (me : Int32) (hi : i ≤ cstop O.1 O.2.1 O.2.2.1) (hj : j ≤ cstop O.1 O.2.1 O.2.2.1) (hn : O.2.2.1 ≤ 14) (h0 : 0 < C.2.1) (hcap : C.2.1 ≤ 32768) (hs : C.2.2.2 = O.2.2.2 → clV O.1 O.2.1 O.2.2.1 C.2.2.1 C.1 ∧ cstop O.1 O.2.1 O.2.2.1 + 1 ≤ C.2.1) : zM (S := Nat × (Nat → Int32)) K yX8_joined cX8_joined 6 (some .int) (zqC 6 C.2.2.2 O.2.2.2 O.1 O.2.1 O.2.2.1 C.2.1 169) [.ref (A 0), .int (nI i), .int (nI j), .int me] (wD K A O L q W P R C M) (fun u => clV O.1 O.2.1 O.2.2.1 (nI (cstop O.1 O.2.1 O.2.2.1 + 1)) u.2) (fun _ => some (.int (oI (nol O.1 O.2.1 O.2.2.1 (clo O.1 O.2.1 O.2.2.1 (if me = 0 then (cutv O.1 O.2.1 O.2.2.1 i) ||| (cutv O.1 O.2.1 O.2.2.1 j) else (cutv O.1 O.2.1 O.2.2.1 i) &&& (cutv O.1 O.2.1 O.2.2.1 j))) (cstop O.1 O.2.1 O.2.2.1 + 1))))) (fun u => (wD K (va_up A 16 u.1) O L q W P R (u.2, (capR C.2.2.2 O.2.2.2 O.1 O.2.1 O.2.2.1 C.2.1), nI (cstop O.1 O.2.1 O.2.2.1 + 1), O.2.2.2) M)) := by
  refine zo (by decide) (Nat.le_of_ble_eq_true rfl) fun x Cx Rx _ => ?_
  have hge := capR_ge hn h0 hcap (fun z => (hs z).2)
  have hhi := capR_hi C.2.2.2 O.2.2.2 O.1 O.2.1 hn h0 hcap
  have hst := cstop_le O.1 O.2.1 O.2.2.1
  have hall := nb_all_lt hn
  have hpos : 0 < 2 ^ O.2.2.1 := Nat.two_pow_pos _
  have hmx : (if me = 0 then (cutv O.1 O.2.1 O.2.2.1 i) ||| (cutv O.1 O.2.1 O.2.2.1 j) else (cutv O.1 O.2.1 O.2.2.1 i) &&& (cutv O.1 O.2.1 O.2.2.1 j)) < 2 ^ 14 := by
    split
    · exact nb_lt_or (cutv_lt hn) (cutv_lt hn)
    · exact Nat.lt_of_le_of_lt Nat.and_le_left (cutv_lt hn)
  refine zv_go Cx okX8_joined [] 3 ?_
  refine ⟨rfl, ?_⟩
  refine zv_callV Cx (c_clHas K (A 15) (A 1) (A 2) (A 3) (A 16) O.1 O.2.1 O.2.2.1 O.2.2.2 C.1 C.2.1 C.2.2.1 C.2.2.2 (nI i) hn h0 hcap (fun z => (hs z).1)) (zw_V inX0_has kX8_137 ⟨by show 5 + 1 ≤ 6; omega, by show 8 + (2 + 11) + 146 ≤ 169; omega⟩) [15, 1, 2, 3, 16] 15 rfl rfl rfl rfl (fun _ => Nat.le_refl _) rfl rfl (by decide) dzX8_joined_5 (Nat.le_of_eq (Nat.zero_add _)) (Nat.le_of_eq (Nat.zero_add _)) rfl (fun u hu => ?_)
  refine zv_to Cx rfl rfl (ws' := (wD K (va_up A 16 u.1) O L q W P R (u.2, (capR C.2.2.2 O.2.2.2 O.1 O.2.1 O.2.2.1 C.2.1), nI (cstop O.1 O.2.1 O.2.2.1 + 1), O.2.2.2) M)) rfl ?_
  refine zv_wide Cx (ce' := (capR C.2.2.2 O.2.2.2 O.1 O.2.1 O.2.2.1 C.2.1) - C.2.1) (sl' := 2 * ((capR C.2.2.2 O.2.2.2 O.1 O.2.1 O.2.2.1 C.2.1) - C.2.1)) (Nat.le_of_eq (Nat.zero_add _)) (Nat.le_of_eq (Nat.zero_add _)) ?_
  refine zv_go Cx okX8_joined [] 20 ?_
  refine ⟨fun h1 => ?_, fun h1 => ⟨rfl, ?_⟩⟩
  · rw [bI_0, hasb_nI (by omega) (by omega), decide_eq_false_iff_not] at h1; exact absurd (by omega) h1
  refine zv_callV Cx (c_clHas1 K (A 15) (A 1) (A 2) (A 3) u.1 O.1 O.2.1 O.2.2.1 O.2.2.2 u.2 (capR C.2.2.2 O.2.2.2 O.1 O.2.1 O.2.2.1 C.2.1) (nI (cstop O.1 O.2.1 O.2.2.1 + 1)) (nI j) hn (by omega) hhi hu) (zw_V inX0_has kX8_137 ⟨by show 5 + 1 ≤ 6; omega, by show 8 + (2 + 11) + 146 ≤ 169; omega⟩) [15, 1, 2, 3, 16] 15 rfl rfl rfl rfl (fun _ => Nat.le_refl _) rfl rfl (by decide) dzX8_joined_16 (Nat.le_refl _) (Nat.le_refl _) rfl (fun w hw => ?_)
  refine zv_to Cx rfl rfl (ws' := (wD K (va_up A 16 w.1) O L q W P R (w.2, (capR C.2.2.2 O.2.2.2 O.1 O.2.1 O.2.2.1 C.2.1), nI (cstop O.1 O.2.1 O.2.2.1 + 1), O.2.2.2) M)) rfl ?_
  refine zv_go Cx okX8_joined [] 20 ?_
  refine ⟨fun h1 => ⟨rfl, ?_⟩, fun h1 => ?_⟩
  rotate_left
  · rw [bI_0, hasb_nI (by omega) (by omega), decide_eq_false_iff_not] at h1; exact absurd (by omega) h1
  refine zv_callV Cx (c_setOf K (A 15) (A 1) (A 2) (A 3) w.1 O.1 O.2.1 O.2.2.1 O.2.2.2 w.2 (capR C.2.2.2 O.2.2.2 O.1 O.2.1 O.2.2.1 C.2.1) (nI (cstop O.1 O.2.1 O.2.2.1 + 1)) O.2.2.2 (k := i) (by omega) hhi) (zw_V inX0_setOf kX8_138 ⟨by show 0 + 1 ≤ 6; omega, by show 8 + (2 + 11) + 0 ≤ 169; omega⟩) [15, 1, 2, 3, 16] 15 rfl rfl rfl rfl (fun _ => Nat.le_refl _) rfl rfl (by decide) dzX8_joined_29 (Nat.le_refl _) (Nat.le_refl _) rfl (fun _ _ => ?_)
  refine zv_to Cx rfl rfl (ws' := (wD K (va_up A 16 w.1) O L q W P R (w.2, (capR C.2.2.2 O.2.2.2 O.1 O.2.1 O.2.2.1 C.2.1), nI (cstop O.1 O.2.1 O.2.2.1 + 1), O.2.2.2) M)) rfl ?_
  refine zv_go Cx okX8_joined [] 4 ?_
  refine ⟨rfl, ?_⟩
  refine zv_callV Cx (c_setOf K (A 15) (A 1) (A 2) (A 3) w.1 O.1 O.2.1 O.2.2.1 O.2.2.2 w.2 (capR C.2.2.2 O.2.2.2 O.1 O.2.1 O.2.2.1 C.2.1) (nI (cstop O.1 O.2.1 O.2.2.1 + 1)) O.2.2.2 (k := j) (by omega) hhi) (zw_V inX0_setOf kX8_138 ⟨by show 0 + 1 ≤ 6; omega, by show 8 + (2 + 11) + 0 ≤ 169; omega⟩) [15, 1, 2, 3, 16] 15 rfl rfl rfl rfl (fun _ => Nat.le_refl _) rfl rfl (by decide) dzX8_joined_39 (Nat.le_refl _) (Nat.le_refl _) rfl (fun _ _ => ?_)
  refine zv_to Cx rfl rfl (ws' := (wD K (va_up A 16 w.1) O L q W P R (w.2, (capR C.2.2.2 O.2.2.2 O.1 O.2.1 O.2.2.1 C.2.1), nI (cstop O.1 O.2.1 O.2.2.1 + 1), O.2.2.2) M)) rfl ?_
  refine zv_go Cx okX8_joined [] 20 ?_
  refine ⟨rfl, fun h3 => ?_, fun h3 => ?_⟩
  · refine zv_to Cx rfl (st' := [.int (nI (if me = 0 then (cutv O.1 O.2.1 O.2.2.1 i) ||| (cutv O.1 O.2.1 O.2.2.1 j) else (cutv O.1 O.2.1 O.2.2.1 i) &&& (cutv O.1 O.2.1 O.2.2.1 j))), .ref (A 15)]) (by rw [if_pos h3, ← nb_or, ← hw.2 i hi, ← hw.2 j hj] <;> rfl) rfl ?_
    refine zv_callV Cx (c_numberOfLeast1 K (A 15) (A 1) (A 2) (A 3) w.1 O.1 O.2.1 O.2.2.1 O.2.2.2 w.2 (capR C.2.2.2 O.2.2.2 O.1 O.2.1 O.2.2.1 C.2.1) (nI (cstop O.1 O.2.1 O.2.2.1 + 1)) (s := (if me = 0 then (cutv O.1 O.2.1 O.2.2.1 i) ||| (cutv O.1 O.2.1 O.2.2.1 j) else (cutv O.1 O.2.1 O.2.2.1 i) &&& (cutv O.1 O.2.1 O.2.2.1 j))) hmx hn (by omega) hhi hw hge) (zw_V inX0_numberOfLeast kX8_144 ⟨by show 5 + 1 ≤ 6; omega, by show 8 + (4 + 11) + 146 ≤ 169; omega⟩) [15, 1, 2, 3, 16] 15 rfl rfl rfl rfl (fun _ => Nat.le_refl _) rfl rfl (by decide) dzX8_joined_65 (Nat.le_refl _) (Nat.le_refl _) rfl (fun y hy => ?_)
    exact zr Rx y (List.range 20) (some (.int _)) _ rfl rfl hy rfl rfl (Nat.le_refl _) (Nat.le_refl _) dzX8_joined_68
  · refine zv_to Cx rfl (st' := [.int (nI (if me = 0 then (cutv O.1 O.2.1 O.2.2.1 i) ||| (cutv O.1 O.2.1 O.2.2.1 j) else (cutv O.1 O.2.1 O.2.2.1 i) &&& (cutv O.1 O.2.1 O.2.2.1 j))), .ref (A 15)]) (by rw [if_neg h3, ← nb_and, ← hw.2 i hi, ← hw.2 j hj] <;> rfl) rfl ?_
    refine zv_callV Cx (c_numberOfLeast1 K (A 15) (A 1) (A 2) (A 3) w.1 O.1 O.2.1 O.2.2.1 O.2.2.2 w.2 (capR C.2.2.2 O.2.2.2 O.1 O.2.1 O.2.2.1 C.2.1) (nI (cstop O.1 O.2.1 O.2.2.1 + 1)) (s := (if me = 0 then (cutv O.1 O.2.1 O.2.2.1 i) ||| (cutv O.1 O.2.1 O.2.2.1 j) else (cutv O.1 O.2.1 O.2.2.1 i) &&& (cutv O.1 O.2.1 O.2.2.1 j))) hmx hn (by omega) hhi hw hge) (zw_V inX0_numberOfLeast kX8_144 ⟨by show 5 + 1 ≤ 6; omega, by show 8 + (4 + 11) + 146 ≤ 169; omega⟩) [15, 1, 2, 3, 16] 15 rfl rfl rfl rfl (fun _ => Nat.le_refl _) rfl rfl (by decide) dzX8_joined_65 (Nat.le_refl _) (Nat.le_refl _) rfl (fun y hy => ?_)
    exact zr Rx y (List.range 20) (some (.int _)) _ rfl rfl hy rfl rfl (Nat.le_refl _) (Nat.le_refl _) dzX8_joined_68
end ZF
end
section
/-! THE DESK: count -/
section ZT
variable {x : zv_X} {l : Launch} {R : Room} {D : va_G} {cl : List vw_C} {tys : List (ClassId × FieldType)} {nL : Nat} {cc : ByteArray} {own : String} {Ts : List Jvm.Cond} {pc : Nat} {lv : zv_L} {st rest : List Value} {ws : va_W} {ce sl : Nat}
theorem zv_tabIn (C : zv_C x (l, R, D, cl, tys, nL, cc, own, Ts)) {dflt lo hi : Int} {offs : Array Int} {len : Nat} {v : Int32} {off : Int} {tgt : Nat} (hdg : decode cc pc = .ok (.tableswitch dflt lo hi offs, len)) (hst : st = .int v :: rest) (h1 : ¬ v.toInt < lo) (h2 : ¬ hi < v.toInt) (ho : offs[(v.toInt - lo).toNat]? = some off) (ht : (pc : Int) + off = (tgt : Int)) (k : zv_V x (l, R, D, cl, tys, nL, cc, own, Ts) tgt lv rest ws ce sl) : zv_V x (l, R, D, cl, tys, nL, cc, own, Ts) pc lv st ws ce sl := by
  subst hst
  obtain ⟨p, e, s, m, args, below, meth, c, A, Q⟩ := x
  obtain ⟨hx, hb, hml, hown, hts, hK, hA, hE, hct⟩ := C
  intro H locs ls hP hD hS hl
  exact lv_tableIn hx hb hdg h1 h2 ho ht (k H locs ls hP hD hS hl)
theorem zv_tabOut (C : zv_C x (l, R, D, cl, tys, nL, cc, own, Ts)) {dflt lo hi : Int} {offs : Array Int} {len : Nat} {v : Int32} {tgt : Nat} (hdg : decode cc pc = .ok (.tableswitch dflt lo hi offs, len)) (hst : st = .int v :: rest) (h : v.toInt < lo ∨ hi < v.toInt) (ht : (pc : Int) + dflt = (tgt : Int)) (k : zv_V x (l, R, D, cl, tys, nL, cc, own, Ts) tgt lv rest ws ce sl) : zv_V x (l, R, D, cl, tys, nL, cc, own, Ts) pc lv st ws ce sl := by
  subst hst
  obtain ⟨p, e, s, m, args, below, meth, c, A, Q⟩ := x
  obtain ⟨hx, hb, hml, hown, hts, hK, hA, hE, hct⟩ := C
  intro H locs ls hP hD hS hl
  exact lv_tableOut hx hb hdg h ht (k H locs ls hP hD hS hl)
end ZT
section ZG
variable (K : zK) (A : Nat → Nat) (O : dO) (L : dL) (q : zS) (W : dW) (P : dP) (R : dR) (C : dC) (M : dM)
set_option maxHeartbeats 4000000 in
set_option maxRecDepth 100000 in
theorem d_count_no (v : Int32) (h : v.toInt < 0 ∨ 5 < v.toInt) : zD K yX8_count cX8_count 2 (some .int) (zq 1 0 0 22) [.ref (A 0), .int v] (wD K A O L q W P R C M) (some (.int (-1))) (wD K A O L q W P R C M) := by
  refine zo (by decide) (Nat.le_of_ble_eq_true rfl) fun x Cx Rx _ => ?_
  refine zv_go Cx okX8_count [] 1 ?_
  refine zv_tabOut Cx dzX8_count_1 (tgt := 91) rfl h (by decide) ?_
  refine zv_go Cx okX8_count [] 20 ?_
  exact zr Rx () (List.range 20) (some (.int (-1))) _ rfl rfl trivial rfl rfl (Nat.zero_le _) (Nat.zero_le _) dzX8_count_92
set_option maxHeartbeats 4000000 in
set_option maxRecDepth 100000 in
theorem d_count0  : zD K yX8_count cX8_count 2 (some .int) (zq 1 0 0 22) [.ref (A 0), .int 0] (wD K A O L q W P R C M) (some (.int (nI O.2.2.1))) (wD K A O L q W P R C M) := by
  refine zo (by decide) (Nat.le_of_ble_eq_true rfl) fun x Cx Rx _ => ?_
  refine zv_go Cx okX8_count [] 1 ?_
  refine zv_tabIn Cx dzX8_count_1 (v := 0) (off := 39) (tgt := 40) rfl (by decide) (by decide) (by decide) (by decide) ?_
  refine zv_go Cx okX8_count [] 20 ?_
  refine ⟨rfl, rfl, ?_⟩
  exact zr Rx () (List.range 20) (some (.int _)) _ rfl rfl trivial rfl rfl (Nat.zero_le _) (Nat.zero_le _) dzX8_count_47
set_option maxHeartbeats 4000000 in
set_option maxRecDepth 100000 in
theorem d_count1 (hn : O.2.2.1 ≤ 14) (ha : ∀ j, O.2.1 j < 2 ^ 14) : zD K yX8_count cX8_count 2 (some .int) (zq 2 0 0 42) [.ref (A 0), .int 1] (wD K A O L q W P R C M) (some (.int (nI (osum O.2.1 O.2.2.1)))) (wD K A O L q W P R C M) := by
  refine zo (by decide) (Nat.le_of_ble_eq_true rfl) fun x Cx Rx _ => ?_
  refine zv_go Cx okX8_count [] 1 ?_
  refine zv_tabIn Cx dzX8_count_1 (v := 1) (off := 47) (tgt := 48) rfl (by decide) (by decide) (by decide) (by decide) ?_
  refine zv_go Cx okX8_count [] 2 ?_
  refine ⟨rfl, ?_⟩
  refine zv_callV Cx (c_pairs K (A 1) (A 2) (A 3) O.1 O.2.1 O.2.2.1 O.2.2.2 hn ha) (zw_V inX4_pairs kX8_92 ⟨by decide, by decide⟩) [1, 2, 3] 1 rfl rfl rfl rfl (fun _ => Nat.le_refl _) rfl rfl (by decide) dzX8_count_52 (by decide) (by decide) rfl (fun _ _ => ?_)
  exact zr Rx () (List.range 20) (some (.int _)) _ rfl rfl trivial rfl rfl (Nat.zero_le _) (Nat.zero_le _) dzX8_count_55
set_option maxHeartbeats 4000000 in
set_option maxRecDepth 100000 in
theorem d_count2 (hn : O.2.2.1 ≤ 14) (ha : ∀ j, O.2.1 j < 2 ^ 14) (hs : L.2.2.2 = O.2.2.2 → lcV O.2.1 O.2.2.1 L.2.2.1 L.2.1) : zM (S := (Nat → Int32) × (Nat → Int32)) K yX8_count cX8_count 2 (some .int) (zq 4 0 0 85) [.ref (A 0), .int 2] (wD K A O L q W P R C M) (fun u => lcV O.2.1 O.2.2.1 (nI (plen O.2.1 O.2.2.1)) u.2) (fun _ => some (.int (nI (plen O.2.1 O.2.2.1)))) (fun u => wD K A O (u.1, u.2, nI (plen O.2.1 O.2.2.1), O.2.2.2) q W P R C M) := by
  refine zo (by decide) (Nat.le_of_ble_eq_true rfl) fun x Cx Rx _ => ?_
  refine zv_go Cx okX8_count [] 1 ?_
  refine zv_tabIn Cx dzX8_count_1 (v := 2) (off := 55) (tgt := 56) rfl (by decide) (by decide) (by decide) (by decide) ?_
  refine zv_go Cx okX8_count [] 2 ?_
  refine ⟨rfl, ?_⟩
  refine zv_callV Cx (c_lcLength K (A 4) (A 1) (A 2) (A 3) (A 5) (A 6) O.1 O.2.1 O.2.2.1 O.2.2.2 L.1 L.2.1 L.2.2.1 L.2.2.2 hn ha hs) (zw_V inX1_length kX8_96 ⟨by decide, by decide⟩) [4, 1, 2, 3, 5, 6] 4 rfl rfl rfl rfl (fun _ => Nat.le_refl _) rfl rfl (by decide) dzX8_count_60 (by decide) (by decide) rfl (fun u hu => ?_)
  exact zr Rx u (List.range 20) (some (.int _)) _ rfl rfl hu rfl rfl (Nat.zero_le _) (Nat.zero_le _) dzX8_count_63
set_option maxHeartbeats 4000000 in
set_option maxRecDepth 100000 in
theorem d_count3 (hn : O.2.2.1 ≤ 14) (ha : ∀ j, O.2.1 j < 2 ^ 14) {ap : Nat} (hapl : ap < 2 ^ 14) (hap : (if W.2 = O.2.2.2 then W.1 else nI (capt O.1 O.2.1 O.2.2.1)) = nI ap) : zM (S := zS) K yX8_count cX8_count 2 (some .int) (zq 20 0 0 456) [.ref (A 0), .int 3] (wD K A O L q W P R C M) (fun _ => True) (fun _ => some (.int (nI (npc 14 ap)))) (fun u => wD K A O L u (nI ap, O.2.2.2) P R C M) := by
  refine zo (by decide) (Nat.le_of_ble_eq_true rfl) fun x Cx Rx _ => ?_
  refine zv_go Cx okX8_count [] 1 ?_
  refine zv_tabIn Cx dzX8_count_1 (v := 3) (off := 63) (tgt := 64) rfl (by decide) (by decide) (by decide) (by decide) ?_
  refine zv_go Cx okX8_count [] 2 ?_
  refine ⟨rfl, ?_⟩
  refine zv_callV Cx (c_asSet K (A 9) (A 7) (A 1) (A 2) (A 3) (A 8) O.1 O.2.1 O.2.2.1 O.2.2.2 q W.1 W.2 hn ha) (zw_V inX7_asSet kX8_99 ⟨by decide, by decide⟩) [9, 7, 1, 2, 3, 8] 9 rfl rfl rfl rfl (fun _ => Nat.le_refl _) rfl rfl (by decide) dzX8_count_68 (by decide) (by decide) rfl (fun u hu => ?_)
  refine zv_to Cx rfl (st' := [.int (nI ap)]) (by rw [← hap] <;> rfl) (ws' := wD K A O L u (nI ap, O.2.2.2) P R C M) (by rw [← hap] <;> rfl) ?_
  refine zv_callS Cx (c_bitCount K hapl) (zw_S inJ6_bitCount_0f7a4 kX8_102 ⟨by decide, by decide⟩) [] rfl rfl (fun _ => Nat.le_refl _) rfl rfl (by decide) dzX8_count_71 (by decide) (by decide) rfl (fun _ _ => ?_)
  exact zr Rx u (List.range 20) (some (.int _)) _ rfl rfl trivial rfl rfl (Nat.zero_le _) (Nat.zero_le _) dzX8_count_74
set_option maxHeartbeats 4000000 in
set_option maxRecDepth 100000 in
theorem d_count4 (hn : O.2.2.1 ≤ 14) (hb : ∀ j, O.1 j < 2 ^ 14) (hp : pw2 R.2.2.1) (hs : R.2.2.2.2.1 = O.2.2.2 → rbV O.1 O.2.2.1 R.2.2.1 R.1 R.2.2.2.1) : zM (S := Nat × Nat × (Nat → Int64)) K yX8_count cX8_count 2 (some .int) (zqB 4 R.2.2.2.2.1 O.2.2.2 O.2.2.1 R.2.2.1 88) [.ref (A 0), .int 4] (wD K A O L q W P R C M) (fun u => R.2.2.2.2.1 = O.2.2.2 → u.2.2 = R.2.1) (fun _ => some (.int (nI (rIdl O.1 O.2.2.1)))) (fun u => wD K (va_up (va_up A 13 u.1) 14 u.2.1) O L q W P (rBeg O.1 O.2.2.1, u.2.2, (capB R.2.2.2.2.1 O.2.2.2 O.2.2.1 R.2.2.1), nI (rIdl O.1 O.2.2.1), O.2.2.2, R.2.2.2.2.2) C M) := by
  refine zo (by decide) (Nat.le_of_ble_eq_true rfl) fun x Cx Rx _ => ?_
  refine zv_go Cx okX8_count [] 1 ?_
  refine zv_tabIn Cx dzX8_count_1 (v := 4) (off := 74) (tgt := 75) rfl (by decide) (by decide) (by decide) (by decide) ?_
  refine zv_go Cx okX8_count [] 2 ?_
  refine ⟨rfl, ?_⟩
  refine zv_callV Cx (c_ideals K (A 12) (A 1) (A 2) (A 3) (A 13) (A 14) O.1 O.2.1 O.2.2.1 O.2.2.2 R.1 R.2.1 R.2.2.1 R.2.2.2.1 R.2.2.2.2.1 R.2.2.2.2.2 hn hb hp hs) (zw_V inX6_ideals kX8_107 ⟨by show 3 + 1 ≤ 4; omega, by show 8 + (1 + 11) + 68 ≤ 88; omega⟩) [12, 1, 2, 3, 13, 14] 12 rfl rfl rfl rfl (fun _ => Nat.le_refl _) rfl rfl (by decide) dzX8_count_79 (Nat.le_of_eq (Nat.zero_add _)) (Nat.le_of_eq (Nat.zero_add _)) rfl (fun u hu => ?_)
  exact zr Rx u (List.range 20) (some (.int _)) _ rfl rfl hu rfl rfl (Nat.le_of_eq (Nat.zero_add _)) (Nat.le_of_eq (Nat.zero_add _)) dzX8_count_82
set_option maxHeartbeats 4000000 in
set_option maxRecDepth 100000 in
theorem d_count5 (hn : O.2.2.1 ≤ 14) (h0 : 0 < C.2.1) (hcap : C.2.1 ≤ 32768) (hs : C.2.2.2 = O.2.2.2 → clV O.1 O.2.1 O.2.2.1 C.2.2.1 C.1 ∧ cstop O.1 O.2.1 O.2.2.1 + 1 ≤ C.2.1) : zM (S := Nat × (Nat → Int32)) K yX8_count cX8_count 2 (some .int) (zqC 6 C.2.2.2 O.2.2.2 O.1 O.2.1 O.2.2.1 C.2.1 166) [.ref (A 0), .int 5] (wD K A O L q W P R C M) (fun u => clV O.1 O.2.1 O.2.2.1 (nI (cstop O.1 O.2.1 O.2.2.1 + 1)) u.2) (fun _ => some (.int (nI (cstop O.1 O.2.1 O.2.2.1 + 1)))) (fun u => (wD K (va_up A 16 u.1) O L q W P R (u.2, (capR C.2.2.2 O.2.2.2 O.1 O.2.1 O.2.2.1 C.2.1), nI (cstop O.1 O.2.1 O.2.2.1 + 1), O.2.2.2) M)) := by
  refine zo (by decide) (Nat.le_of_ble_eq_true rfl) fun x Cx Rx _ => ?_
  refine zv_go Cx okX8_count [] 1 ?_
  refine zv_tabIn Cx dzX8_count_1 (v := 5) (off := 82) (tgt := 83) rfl (by decide) (by decide) (by decide) (by decide) ?_
  refine zv_go Cx okX8_count [] 2 ?_
  refine ⟨rfl, ?_⟩
  refine zv_callV Cx (c_clLength K (A 15) (A 1) (A 2) (A 3) (A 16) O.1 O.2.1 O.2.2.1 O.2.2.2 C.1 C.2.1 C.2.2.1 C.2.2.2 hn h0 hcap (fun z => (hs z).1)) (zw_V inX0_length kX8_110 ⟨by show 5 + 1 ≤ 6; omega, by show 8 + (1 + 11) + 146 ≤ 166; omega⟩) [15, 1, 2, 3, 16] 15 rfl rfl rfl rfl (fun _ => Nat.le_refl _) rfl rfl (by decide) dzX8_count_87 (Nat.le_of_eq (Nat.zero_add _)) (Nat.le_of_eq (Nat.zero_add _)) rfl (fun u hu => ?_)
  exact zr Rx u (List.range 20) (some (.int _)) _ rfl rfl hu rfl rfl (Nat.le_of_eq (Nat.zero_add _)) (Nat.le_of_eq (Nat.zero_add _)) dzX8_count_90
end ZG
end
section
/-! THE DESK: mu, muOfCuts -/
/-- the sets of an interval, as they are added, and how many -/
def mqS (bl : Nat → Nat) (bt : Nat) : Nat → (Nat → Nat) × Nat
  | 0 => (fun _ => 0, 0)
  | k + 1 => if bt.testBit k = true then (muI (mqS bl bt k).1 (bl k ||| 2 ^ k) (mqS bl bt k).2, (mqS bl bt k).2 + 1) else mqS bl bt k
theorem muI_lt {S : Nat → Nat} {v L : Nat} (hS : ∀ j, j < L → S j < 2 ^ 14) (hv : v < 2 ^ 14) : ∀ j, j < L + 1 → muI S v L j < 2 ^ 14 := by
  intro j hj
  have hp := muP_le S v L
  unfold muI
  split
  · exact hS j (by omega)
  · split
    · exact hv
    · exact hS (j - 1) (by omega)
theorem mqS_ok {bl : Nat → Nat} {bt : Nat} (hb : ∀ j, bl j < 2 ^ 14) : ∀ k, k ≤ 14 → (mqS bl bt k).2 ≤ k ∧ ∀ j, j < (mqS bl bt k).2 → (mqS bl bt k).1 j < 2 ^ 14
  | 0, _ => ⟨Nat.le_refl _, fun j hj => absurd hj (Nat.not_lt_zero _)⟩
  | k + 1, hk => by
    have h := mqS_ok (bt := bt) hb k (by omega)
    unfold mqS
    split
    · exact ⟨by show (mqS bl bt k).2 + 1 ≤ k + 1; omega, muI_lt h.2 (nb_lt_or (hb k) (nb_lt_pow (by omega)))⟩
    · exact ⟨by omega, h.2⟩
theorem mqS_mono {bl : Nat → Nat} {bt : Nat} {k n : Nat} (h : k ≤ n) : (mqS bl bt k).2 ≤ (mqS bl bt n).2 := by
  induction h with
  | refl => exact Nat.le_refl _
  | step _ ih =>
    refine Nat.le_trans ih ?_
    rename_i m _
    show (mqS bl bt m).2 ≤ (mqS bl bt (m + 1)).2
    conv => rhs; unfold mqS
    split
    · exact Nat.le_succ _
    · exact Nat.le_refl _
abbrev zqM (f cap L l : Nat) : Room := zq f (2 * (capA cap L - cap)) (4 * (capA cap L - cap)) l
section ZH
variable (K : zK) (A : Nat → Nat) (O : dO) (L : dL) (q : zS) (W : dW) (P : dP) (R : dR) (C : dC) (M : dM)
set_option maxHeartbeats 4000000 in
set_option maxRecDepth 100000 in
theorem d_mu_no (a b : Int32) (h : hasb O.2.2.1 a = false ∨ hasb O.2.2.1 b = false) : zD K yX8_mu cX8_mu 5 (some .int) (zq 1 0 0 22) [.ref (A 0), .int a, .int b] (wD K A O L q W P R C M) (some (.int 0)) (wD K A O L q W P R C M) := by
  refine zo (by decide) (Nat.le_of_ble_eq_true rfl) fun x Cx Rx _ => ?_
  refine zv_go Cx okX8_mu [] 3 ?_
  refine ⟨rfl, ?_⟩
  refine zv_callV Cx (c_has K (A 1) (A 2) (A 3) O.1 O.2.1 O.2.2.1 O.2.2.2 a) (zw_V inX4_has kX8_69 ⟨by decide, by decide⟩) [1, 2, 3] 1 rfl rfl rfl rfl (fun _ => Nat.le_refl _) rfl rfl (by decide) dzX8_mu_5 (by decide) (by decide) rfl (fun _ _ => ?_)
  refine zv_to Cx rfl rfl (ws' := wD K A O L q W P R C M) rfl ?_
  refine zv_go Cx okX8_mu [] 20 ?_
  refine ⟨fun h1 => ?_, fun h1 => ⟨rfl, ?_⟩⟩
  · exact zr Rx () (List.range 20) (some (.int 0)) _ rfl rfl trivial rfl rfl (Nat.zero_le _) (Nat.zero_le _) dzX8_mu_23
  refine zv_callV Cx (c_has K (A 1) (A 2) (A 3) O.1 O.2.1 O.2.2.1 O.2.2.2 b) (zw_V inX4_has kX8_69 ⟨by decide, by decide⟩) [1, 2, 3] 1 rfl rfl rfl rfl (fun _ => Nat.le_refl _) rfl rfl (by decide) dzX8_mu_16 (by decide) (by decide) rfl (fun _ _ => ?_)
  refine zv_to Cx rfl rfl (ws' := wD K A O L q W P R C M) rfl ?_
  refine zv_go Cx okX8_mu [] 3 ?_
  refine ⟨fun h2 => ?_, fun h2 => ?_⟩
  · rw [bI_1] at h1 h2
    rcases h with h | h
    · rw [h] at h1; cases h1
    · rw [h] at h2; cases h2
  · refine zv_go Cx okX8_mu [] 20 ?_
    exact zr Rx () (List.range 20) (some (.int 0)) _ rfl rfl trivial rfl rfl (Nat.zero_le _) (Nat.zero_le _) dzX8_mu_23
set_option maxHeartbeats 4000000 in
set_option maxRecDepth 100000 in
theorem d_mu {i j bt : Nat} (hbt : bt = (O.2.1 i ||| 2 ^ i) &&& (O.1 j ||| 2 ^ j)) (hi : i < O.2.2.1) (hj : j < O.2.2.1) (hn : O.2.2.1 ≤ 14) (hb : ∀ j, O.1 j < 2 ^ 14) (ha : ∀ j, O.2.1 j < 2 ^ 14) (h0 : 0 < M.2.2.1) (hcap : M.2.2.1 ≤ 32768) :
    zM (S := Nat × Nat × (Nat → Int32) × (Nat → Int32)) K yX8_mu cX8_mu 5 (some .int) (zqM 4 M.2.2.1 (mqS O.1 bt O.2.2.1).2 124) [.ref (A 0), .int (nI i), .int (nI j)] (wD K A O L q W P R C M) (fun _ => True) (fun _ => some (.int (muR (mqS O.1 bt O.2.2.1).1 (mqS O.1 bt O.2.2.1).2))) (fun u => wD K (va_up (va_up A 18 u.1) 19 u.2.1) O L q W P R C (u.2.2.1, u.2.2.2, capA M.2.2.1 (mqS O.1 bt O.2.2.1).2, nI (mqS O.1 bt O.2.2.1).2)) := by
  have hbtl : bt < 2 ^ 14 := by rw [hbt]; exact Nat.lt_of_le_of_lt Nat.and_le_left (nb_lt_or (ha i) (nb_lt_pow (by omega)))
  have hfin := mqS_ok (bt := bt) hb O.2.2.1 hn
  have hcf := capA_ok h0 hcap (mqS O.1 bt O.2.2.1).2 (by omega)
  refine zo (by decide) (Nat.le_of_ble_eq_true rfl) fun x Cx Rx _ => ?_
  refine zv_go Cx okX8_mu [] 3 ?_
  refine ⟨rfl, ?_⟩
  refine zv_callV Cx (c_has K (A 1) (A 2) (A 3) O.1 O.2.1 O.2.2.1 O.2.2.2 (nI i)) (zw_V inX4_has kX8_69 ⟨by show 0 + 1 ≤ 4; omega, by show 8 + (2 + 11) + 0 ≤ 124; omega⟩) [1, 2, 3] 1 rfl rfl rfl rfl (fun _ => Nat.le_refl _) rfl rfl (by decide) dzX8_mu_5 (Nat.zero_le _) (Nat.zero_le _) rfl (fun _ _ => ?_)
  refine zv_to Cx rfl rfl (ws' := wD K A O L q W P R C M) rfl ?_
  refine zv_go Cx okX8_mu [] 20 ?_
  refine ⟨fun h1 => ?_, fun h1 => ⟨rfl, ?_⟩⟩
  · rw [bI_0, hasb_nI (by omega) (by omega), decide_eq_false_iff_not] at h1; exact absurd hi h1
  refine zv_callV Cx (c_has K (A 1) (A 2) (A 3) O.1 O.2.1 O.2.2.1 O.2.2.2 (nI j)) (zw_V inX4_has kX8_69 ⟨by show 0 + 1 ≤ 4; omega, by show 8 + (2 + 11) + 0 ≤ 124; omega⟩) [1, 2, 3] 1 rfl rfl rfl rfl (fun _ => Nat.le_refl _) rfl rfl (by decide) dzX8_mu_16 (Nat.zero_le _) (Nat.zero_le _) rfl (fun _ _ => ?_)
  refine zv_to Cx rfl rfl (ws' := wD K A O L q W P R C M) rfl ?_
  refine zv_go Cx okX8_mu [] 6 ?_
  refine ⟨fun h1 => ⟨rfl, ?_⟩, fun h1 => ?_⟩
  rotate_left
  · rw [bI_0, hasb_nI (by omega) (by omega), decide_eq_false_iff_not] at h1; exact absurd hj h1
  refine zv_callV Cx (c_upFrom K (A 1) (A 2) (A 3) O.1 O.2.1 O.2.2.1 O.2.2.2 (i := i) (by omega)) (zw_V inX4_upFrom kX8_147 ⟨by show 0 + 1 ≤ 4; omega, by show 8 + (2 + 11) + 0 ≤ 124; omega⟩) [1, 2, 3] 1 rfl rfl rfl rfl (fun _ => Nat.le_refl _) rfl rfl (by decide) dzX8_mu_29 (Nat.zero_le _) (Nat.zero_le _) rfl (fun _ _ => ?_)
  refine zv_to Cx rfl rfl (ws' := wD K A O L q W P R C M) rfl ?_
  refine zv_go Cx okX8_mu [] 3 ?_
  refine ⟨rfl, ?_⟩
  refine zv_callV Cx (c_downFrom K (A 1) (A 2) (A 3) O.1 O.2.1 O.2.2.1 O.2.2.2 (i := j) (by omega)) (zw_V inX4_downFrom kX8_150 ⟨by show 0 + 1 ≤ 4; omega, by show 8 + (2 + 11) + 0 ≤ 124; omega⟩) [1, 2, 3] 1 rfl rfl rfl rfl (fun _ => Nat.le_refl _) (rest := [.int (nI (O.2.1 i ||| 2 ^ i))]) rfl rfl (Nat.le_of_ble_eq_true rfl) dzX8_mu_37 (Nat.zero_le _) (Nat.zero_le _) rfl (fun _ _ => ?_)
  refine zv_to Cx rfl rfl (ws' := wD K A O L q W P R C M) rfl ?_
  refine zv_go Cx okX8_mu [] 4 ?_
  refine ⟨rfl, ?_⟩
  refine zv_callV Cx (c_clear K (A 17) (A 18) (A 19) M.1 M.2.1 M.2.2.1 M.2.2.2) (zw_V inX3_clear kX8_153 ⟨by show 0 + 1 ≤ 4; omega, by show 8 + (1 + 11) + 0 ≤ 124; omega⟩) [17, 18, 19] 17 rfl rfl rfl rfl (fun _ => Nat.le_refl _) rfl rfl (by decide) dzX8_mu_46 (Nat.zero_le _) (Nat.zero_le _) rfl (fun _ _ => ?_)
  refine zv_to Cx (lv' := [(0, .ref (A 0)), (1, .int (nI i)), (2, .int (nI j)), (3, .int (nI bt))]) (by rw [hbt, ← nb_and] <;> rfl) rfl (ws' := wD K A O L q W P R C (M.1, M.2.1, M.2.2.1, nI 0)) rfl ?_
  have loop : ∀ mm k (s t : Nat) (sf mf : Nat → Int32), k + mm = O.2.2.1 → (∀ v, v < (mqS O.1 bt k).2 → sf v = nI ((mqS O.1 bt k).1 v)) → zv_V x (gz K (zqM 4 M.2.2.1 (mqS O.1 bt O.2.2.1).2 124) 5 cX8_mu yX8_mu.cls) 52 [(0, .ref (A 0)), (1, .int (nI i)), (2, .int (nI j)), (3, .int (nI bt)), (4, .int (nI k))] [] (wD K (va_up (va_up A 18 s) 19 t) O L q W P R C (sf, mf, capA M.2.2.1 (mqS O.1 bt k).2, nI (mqS O.1 bt k).2)) (2 * (capA M.2.2.1 (mqS O.1 bt k).2 - M.2.2.1)) (4 * (capA M.2.2.1 (mqS O.1 bt k).2 - M.2.2.1)) := by
    intro mm
    induction mm with
    | zero =>
      intro k s t sf mf hk hsf
      have e1 : k = O.2.2.1 := by omega
      subst e1
      refine zv_go Cx okX8_mu [] 20 ?_
      refine ⟨rfl, rfl, fun _ => ⟨rfl, ?_⟩, fun h => absurd (nI_le (Nat.le_refl _) (by omega)) h⟩
      refine zv_callV Cx (c_ofFirst K (A 17) s t sf mf (capA M.2.2.1 (mqS O.1 bt O.2.2.1).2) (mqS O.1 bt O.2.2.1).2 (mqS O.1 bt O.2.2.1).1 hcf.1 hcf.2.1 (by omega) (fun v hv => ⟨hsf v hv, hfin.2 v hv⟩)) (zw_V inX3_ofFirstWithLast kX8_159 ⟨by show 2 + 1 ≤ 4; omega, by show 8 + (2 + 11) + 44 ≤ 124; omega⟩) [17, 18, 19] 17 rfl rfl rfl rfl (fun _ => Nat.le_refl _) rfl rfl (by decide) dzX8_mu_99 (Nat.le_refl _) (Nat.le_refl _) rfl (fun u _ => ?_)
      exact zr Rx (s, t, sf, u) (List.range 20) (some (.int _)) _ rfl rfl trivial rfl rfl (Nat.le_refl _) (Nat.le_refl _) dzX8_mu_102
    | succ mm ih =>
      intro k s t sf mf hk hsf
      have hok := mqS_ok (bt := bt) hb k (by omega)
      have hck := capA_ok h0 hcap (mqS O.1 bt k).2 (by omega)
      refine zv_go Cx okX8_mu [52] 20 ?_
      refine ⟨rfl, rfl, fun h => absurd h (nI_ge (by omega) (by omega)), fun _ => ⟨fun h => ?_, fun h => ⟨rfl, rfl, ?_⟩⟩⟩
      · rw [nb_t0 (by omega) (by omega)] at h
        have e2 : mqS O.1 bt (k + 1) = mqS O.1 bt k := by rw [mqS, if_neg (by rw [h]; decide)]
        have hih := ih (k + 1) s t sf mf (by omega) (by rw [e2]; exact hsf)
        rw [e2] at hih
        exact zv_to Cx (lv' := [(0, .ref (A 0)), (1, .int (nI i)), (2, .int (nI j)), (3, .int (nI bt)), (4, .int (nI (k + 1)))]) (by rw [← nI_1] <;> rfl) rfl rfl hih
      · rw [nb_t1 (by omega) (by omega)] at h
        have e2 : mqS O.1 bt (k + 1) = (muI (mqS O.1 bt k).1 (O.1 k ||| 2 ^ k) (mqS O.1 bt k).2, (mqS O.1 bt k).2 + 1) := by rw [mqS, if_pos h]
        have hmo := mqS_mono (bl := O.1) (bt := bt) (k := k + 1) (n := O.2.2.1) (by omega)
        have hca : capA M.2.2.1 ((mqS O.1 bt k).2 + 1) ≤ capA M.2.2.1 (mqS O.1 bt O.2.2.1).2 := capA_mono _ (by rw [e2] at hmo; exact hmo)
        have hc0 : M.2.2.1 ≤ capA M.2.2.1 (mqS O.1 bt k).2 := capA_mono M.2.2.1 (Nat.zero_le _)
        have hc1 : capA M.2.2.1 ((mqS O.1 bt k).2 + 1) = capN (capA M.2.2.1 (mqS O.1 bt k).2) (mqS O.1 bt k).2 := rfl
        have hc2 := capN_le (capA M.2.2.1 (mqS O.1 bt k).2) (mqS O.1 bt k).2
        refine zv_callV Cx (c_downFrom K (A 1) (A 2) (A 3) O.1 O.2.1 O.2.2.1 O.2.2.2 (i := k) (by omega)) (zw_V inX4_downFrom kX8_150 ⟨by show 0 + 1 ≤ 4; omega, by show 8 + (2 + 11) + 0 ≤ 124; omega⟩) [1, 2, 3] 1 rfl rfl rfl rfl (fun _ => Nat.le_refl _) (rest := [.ref (A 17)]) rfl rfl (Nat.le_of_ble_eq_true rfl) dzX8_mu_83 ?_ ?_ rfl (fun _ _ => ?_)
        · show 2 * (capA M.2.2.1 (mqS O.1 bt k).2 - M.2.2.1) + 0 ≤ 2 * (capA M.2.2.1 (mqS O.1 bt O.2.2.1).2 - M.2.2.1)
          omega
        · show 4 * (capA M.2.2.1 (mqS O.1 bt k).2 - M.2.2.1) + 0 ≤ 4 * (capA M.2.2.1 (mqS O.1 bt O.2.2.1).2 - M.2.2.1)
          omega
        refine zv_to Cx rfl rfl (ws' := wD K (va_up (va_up A 18 s) 19 t) O L q W P R C (sf, mf, capA M.2.2.1 (mqS O.1 bt k).2, nI (mqS O.1 bt k).2)) rfl ?_
        refine zv_callV Cx (c_muAdd K (A 17) s t sf mf (capA M.2.2.1 (mqS O.1 bt k).2) (mqS O.1 bt k).2 (mqS O.1 bt k).1 (O.1 k ||| 2 ^ k) hck.2.1 hck.1 (by omega) (by omega) (fun v hv => ⟨hsf v hv, hok.2 v hv⟩) (nb_lt_or (hb k) (nb_lt_pow (by omega)))) (zw_V inX3_add kX8_156 ⟨by show 3 + 1 ≤ 4; omega, by show 8 + (3 + 11) + 102 ≤ 124; omega⟩) [17, 18, 19] 17 rfl rfl rfl rfl (fun _ => Nat.le_refl _) rfl rfl (by decide) dzX8_mu_86 ?_ ?_ rfl (fun u hu => ?_)
        · show 2 * (capA M.2.2.1 (mqS O.1 bt k).2 - M.2.2.1) + 0 + 2 * (capN (capA M.2.2.1 (mqS O.1 bt k).2) (mqS O.1 bt k).2 - capA M.2.2.1 (mqS O.1 bt k).2) ≤ 2 * (capA M.2.2.1 (mqS O.1 bt O.2.2.1).2 - M.2.2.1)
          omega
        · show 4 * (capA M.2.2.1 (mqS O.1 bt k).2 - M.2.2.1) + 0 + 4 * (capN (capA M.2.2.1 (mqS O.1 bt k).2) (mqS O.1 bt k).2 - capA M.2.2.1 (mqS O.1 bt k).2) ≤ 4 * (capA M.2.2.1 (mqS O.1 bt O.2.2.1).2 - M.2.2.1)
          omega
        refine zv_go Cx okX8_mu [52] 20 ?_
        have hih := ih (k + 1) u.1 u.2.1 u.2.2.1 u.2.2.2 (by omega) (by rw [e2]; exact hu)
        rw [e2] at hih
        refine zv_wide Cx (ce' := 2 * (capA M.2.2.1 ((mqS O.1 bt k).2 + 1) - M.2.2.1)) (sl' := 4 * (capA M.2.2.1 ((mqS O.1 bt k).2 + 1) - M.2.2.1)) ?_ ?_ (zv_to Cx (lv' := [(0, .ref (A 0)), (1, .int (nI i)), (2, .int (nI j)), (3, .int (nI bt)), (4, .int (nI (k + 1)))]) (by rw [← nI_1] <;> rfl) rfl (ws' := wD K (va_up (va_up A 18 u.1) 19 u.2.1) O L q W P R C (u.2.2.1, u.2.2.2, capA M.2.2.1 ((mqS O.1 bt k).2 + 1), nI ((mqS O.1 bt k).2 + 1))) rfl hih)
        · show 2 * (capA M.2.2.1 (mqS O.1 bt k).2 - M.2.2.1) + 0 + 2 * (capN (capA M.2.2.1 (mqS O.1 bt k).2) (mqS O.1 bt k).2 - capA M.2.2.1 (mqS O.1 bt k).2) ≤ 2 * (capA M.2.2.1 ((mqS O.1 bt k).2 + 1) - M.2.2.1)
          omega
        · show 4 * (capA M.2.2.1 (mqS O.1 bt k).2 - M.2.2.1) + 0 + 4 * (capN (capA M.2.2.1 (mqS O.1 bt k).2) (mqS O.1 bt k).2 - capA M.2.2.1 (mqS O.1 bt k).2) ≤ 4 * (capA M.2.2.1 ((mqS O.1 bt k).2 + 1) - M.2.2.1)
          omega
  refine zv_go Cx okX8_mu [52] 20 ?_
  refine zv_wide Cx (ce' := 2 * (capA M.2.2.1 (mqS O.1 bt 0).2 - M.2.2.1)) (sl' := 4 * (capA M.2.2.1 (mqS O.1 bt 0).2 - M.2.2.1)) (Nat.zero_le _) (Nat.zero_le _) ?_
  exact zv_to Cx rfl rfl rfl (loop O.2.2.1 0 (A 18) (A 19) M.1 M.2.1 (by omega) (fun v hv => absurd hv (Nat.not_lt_zero _)))
end ZH
end
section
/-! THE DESK: muOfCuts -/
def mcS (bl ab : Nat → Nat) (n lo hi i : Nat) : Nat → (Nat → Nat) × Nat
  | 0 => (fun _ => 0, 0)
  | t + 1 => if ndf lo (cutv bl ab n (i + t)) = 0 ∧ ndf (cutv bl ab n (i + t)) hi = 0 then (muI (mcS bl ab n lo hi i t).1 (cutv bl ab n (i + t)) (mcS bl ab n lo hi i t).2, (mcS bl ab n lo hi i t).2 + 1) else mcS bl ab n lo hi i t
theorem mcS_ok {bl ab : Nat → Nat} {n lo hi i : Nat} (hn : n ≤ 14) : ∀ t, (mcS bl ab n lo hi i t).2 ≤ t ∧ ∀ j, j < (mcS bl ab n lo hi i t).2 → (mcS bl ab n lo hi i t).1 j < 2 ^ 14
  | 0 => ⟨Nat.le_refl _, fun j hj => absurd hj (Nat.not_lt_zero _)⟩
  | t + 1 => by
    have h := mcS_ok (bl := bl) (ab := ab) (lo := lo) (hi := hi) (i := i) hn t
    unfold mcS
    split
    · exact ⟨by show (mcS bl ab n lo hi i t).2 + 1 ≤ t + 1; omega, muI_lt h.2 (cutv_lt hn)⟩
    · exact ⟨by omega, h.2⟩
theorem mcS_mono {bl ab : Nat → Nat} {n lo hi i : Nat} {k m : Nat} (h : k ≤ m) : (mcS bl ab n lo hi i k).2 ≤ (mcS bl ab n lo hi i m).2 := by
  induction h with
  | refl => exact Nat.le_refl _
  | step _ ih =>
    refine Nat.le_trans ih ?_
    rename_i z _
    show (mcS bl ab n lo hi i z).2 ≤ (mcS bl ab n lo hi i (z + 1)).2
    conv => rhs; unfold mcS
    split
    · exact Nat.le_succ _
    · exact Nat.le_refl _
section ZI
variable (K : zK) (A : Nat → Nat) (O : dO) (L : dL) (q : zS) (W : dW) (P : dP) (R : dR) (C : dC) (M : dM)
set_option maxHeartbeats 4000000 in
set_option maxRecDepth 100000 in
theorem d_muOfCuts_no (k l : Int32) (h : hasb (cstop O.1 O.2.1 O.2.2.1 + 1) k = false ∨ hasb (cstop O.1 O.2.1 O.2.2.1 + 1) l = false) (hn : O.2.2.1 ≤ 14) (h0 : 0 < C.2.1) (hcap : C.2.1 ≤ 32768) (hs : C.2.2.2 = O.2.2.2 → clV O.1 O.2.1 O.2.2.1 C.2.2.1 C.1 ∧ cstop O.1 O.2.1 O.2.2.1 + 1 ≤ C.2.1) : zM (S := Nat × (Nat → Int32)) K yX8_muOfCuts cX8_muOfCuts 7 (some .int) (zqC 6 C.2.2.2 O.2.2.2 O.1 O.2.1 O.2.2.1 C.2.1 169) [.ref (A 0), .int k, .int l] (wD K A O L q W P R C M) (fun u => clV O.1 O.2.1 O.2.2.1 (nI (cstop O.1 O.2.1 O.2.2.1 + 1)) u.2) (fun _ => some (.int 0)) (fun u => (wD K (va_up A 16 u.1) O L q W P R (u.2, (capR C.2.2.2 O.2.2.2 O.1 O.2.1 O.2.2.1 C.2.1), nI (cstop O.1 O.2.1 O.2.2.1 + 1), O.2.2.2) M)) := by
  have hge := capR_ge hn h0 hcap (fun z => (hs z).2)
  have hhi := capR_hi C.2.2.2 O.2.2.2 O.1 O.2.1 hn h0 hcap
  have hst := cstop_le O.1 O.2.1 O.2.2.1
  have hall := nb_all_lt hn
  have hpos : 0 < 2 ^ O.2.2.1 := Nat.two_pow_pos _
  have hccr := capR_le C.2.2.2 O.2.2.2 O.1 O.2.1 O.2.2.1 C.2.1
  refine zo (by decide) (Nat.le_of_ble_eq_true rfl) fun x Cx Rx _ => ?_
  refine zv_go Cx okX8_muOfCuts [] 3 ?_
  refine ⟨rfl, ?_⟩
  refine zv_callV Cx (c_clHas K (A 15) (A 1) (A 2) (A 3) (A 16) O.1 O.2.1 O.2.2.1 O.2.2.2 C.1 C.2.1 C.2.2.1 C.2.2.2 k hn h0 hcap (fun z => (hs z).1)) (zw_V inX0_has kX8_137 ⟨by show 5 + 1 ≤ 6; omega, by show 8 + (2 + 11) + 146 ≤ 169; omega⟩) [15, 1, 2, 3, 16] 15 rfl rfl rfl rfl (fun _ => Nat.le_refl _) rfl rfl (by decide) dzX8_muOfCuts_5 (Nat.le_of_eq (Nat.zero_add _)) (Nat.le_of_eq (Nat.zero_add _)) rfl (fun u hu => ?_)
  refine zv_to Cx rfl rfl (ws' := (wD K (va_up A 16 u.1) O L q W P R (u.2, (capR C.2.2.2 O.2.2.2 O.1 O.2.1 O.2.2.1 C.2.1), nI (cstop O.1 O.2.1 O.2.2.1 + 1), O.2.2.2) M)) rfl ?_
  refine zv_wide Cx (ce' := ((capR C.2.2.2 O.2.2.2 O.1 O.2.1 O.2.2.1 C.2.1) - C.2.1)) (sl' := 2 * ((capR C.2.2.2 O.2.2.2 O.1 O.2.1 O.2.2.1 C.2.1) - C.2.1)) (Nat.le_of_eq (Nat.zero_add _)) (Nat.le_of_eq (Nat.zero_add _)) ?_
  refine zv_go Cx okX8_muOfCuts [] 20 ?_
  refine ⟨fun h1 => ?_, fun h1 => ⟨rfl, ?_⟩⟩
  · exact zr Rx u (List.range 20) (some (.int 0)) _ rfl rfl hu rfl rfl (Nat.le_refl _) (Nat.le_refl _) dzX8_muOfCuts_23
  refine zv_callV Cx (c_clHas1 K (A 15) (A 1) (A 2) (A 3) u.1 O.1 O.2.1 O.2.2.1 O.2.2.2 u.2 (capR C.2.2.2 O.2.2.2 O.1 O.2.1 O.2.2.1 C.2.1) (nI (cstop O.1 O.2.1 O.2.2.1 + 1)) l hn (by omega) hhi hu) (zw_V inX0_has kX8_137 ⟨by show 5 + 1 ≤ 6; omega, by show 8 + (2 + 11) + 146 ≤ 169; omega⟩) [15, 1, 2, 3, 16] 15 rfl rfl rfl rfl (fun _ => Nat.le_refl _) rfl rfl (by decide) dzX8_muOfCuts_16 (Nat.le_refl _) (Nat.le_refl _) rfl (fun w hw => ?_)
  refine zv_to Cx rfl rfl (ws' := (wD K (va_up A 16 w.1) O L q W P R (w.2, (capR C.2.2.2 O.2.2.2 O.1 O.2.1 O.2.2.1 C.2.1), nI (cstop O.1 O.2.1 O.2.2.1 + 1), O.2.2.2) M)) rfl ?_
  refine zv_go Cx okX8_muOfCuts [] 1 ?_
  refine ⟨fun h2 => ?_, fun h2 => ?_⟩
  · rw [bI_1] at h1 h2
    rcases h with h | h
    · rw [h] at h1; cases h1
    · rw [h] at h2; cases h2
  · refine zv_go Cx okX8_muOfCuts [] 20 ?_
    exact zr Rx w (List.range 20) (some (.int 0)) _ rfl rfl hw rfl rfl (Nat.le_refl _) (Nat.le_refl _) dzX8_muOfCuts_23
set_option maxHeartbeats 4000000 in
set_option maxRecDepth 100000 in
theorem d_muOfCuts {i j : Nat} (hi : i ≤ cstop O.1 O.2.1 O.2.2.1) (hj : j ≤ cstop O.1 O.2.1 O.2.2.1) (hn : O.2.2.1 ≤ 14) (h0 : 0 < C.2.1) (hcap : C.2.1 ≤ 32768) (hs : C.2.2.2 = O.2.2.2 → clV O.1 O.2.1 O.2.2.1 C.2.2.1 C.1 ∧ cstop O.1 O.2.1 O.2.2.1 + 1 ≤ C.2.1) (hm0 : 0 < M.2.2.1) (hmc : M.2.2.1 ≤ 32768) : zM (S := (Nat × (Nat → Int32)) × Nat × Nat × (Nat → Int32) × (Nat → Int32)) K yX8_muOfCuts cX8_muOfCuts 7 (some .int) (zq 6 (((capR C.2.2.2 O.2.2.2 O.1 O.2.1 O.2.2.1 C.2.1) - C.2.1) + 2 * ((capA M.2.2.1 (mcS O.1 O.2.1 O.2.2.1 (cutv O.1 O.2.1 O.2.2.1 i) (cutv O.1 O.2.1 O.2.2.1 j) i (j + 1 - i)).2) - M.2.2.1)) (2 * ((capR C.2.2.2 O.2.2.2 O.1 O.2.1 O.2.2.1 C.2.1) - C.2.1) + 4 * ((capA M.2.2.1 (mcS O.1 O.2.1 O.2.2.1 (cutv O.1 O.2.1 O.2.2.1 i) (cutv O.1 O.2.1 O.2.2.1 j) i (j + 1 - i)).2) - M.2.2.1)) 169) [.ref (A 0), .int (nI i), .int (nI j)] (wD K A O L q W P R C M) (fun u => clV O.1 O.2.1 O.2.2.1 (nI (cstop O.1 O.2.1 O.2.2.1 + 1)) u.1.2) (fun _ => some (.int (muR (mcS O.1 O.2.1 O.2.2.1 (cutv O.1 O.2.1 O.2.2.1 i) (cutv O.1 O.2.1 O.2.2.1 j) i (j + 1 - i)).1 (mcS O.1 O.2.1 O.2.2.1 (cutv O.1 O.2.1 O.2.2.1 i) (cutv O.1 O.2.1 O.2.2.1 j) i (j + 1 - i)).2))) (fun u => wD K (va_up (va_up (va_up A 16 u.1.1) 18 u.2.1) 19 u.2.2.1) O L q W P R (u.1.2, (capR C.2.2.2 O.2.2.2 O.1 O.2.1 O.2.2.1 C.2.1), nI (cstop O.1 O.2.1 O.2.2.1 + 1), O.2.2.2) (u.2.2.2.1, u.2.2.2.2, (capA M.2.2.1 (mcS O.1 O.2.1 O.2.2.1 (cutv O.1 O.2.1 O.2.2.1 i) (cutv O.1 O.2.1 O.2.2.1 j) i (j + 1 - i)).2), nI (mcS O.1 O.2.1 O.2.2.1 (cutv O.1 O.2.1 O.2.2.1 i) (cutv O.1 O.2.1 O.2.2.1 j) i (j + 1 - i)).2)) := by
  have hge := capR_ge hn h0 hcap (fun z => (hs z).2)
  have hhi := capR_hi C.2.2.2 O.2.2.2 O.1 O.2.1 hn h0 hcap
  have hst := cstop_le O.1 O.2.1 O.2.2.1
  have hall := nb_all_lt hn
  have hpos : 0 < 2 ^ O.2.2.1 := Nat.two_pow_pos _
  have hccr := capR_le C.2.2.2 O.2.2.2 O.1 O.2.1 O.2.2.1 C.2.1
  have hfin := mcS_ok (bl := O.1) (ab := O.2.1) (lo := cutv O.1 O.2.1 O.2.2.1 i) (hi := cutv O.1 O.2.1 O.2.2.1 j) (i := i) hn (j + 1 - i)
  have hcf := capA_ok hm0 hmc (mcS O.1 O.2.1 O.2.2.1 (cutv O.1 O.2.1 O.2.2.1 i) (cutv O.1 O.2.1 O.2.2.1 j) i (j + 1 - i)).2 (by omega)
  refine zo (by decide) (Nat.le_of_ble_eq_true rfl) fun x Cx Rx _ => ?_
  refine zv_go Cx okX8_muOfCuts [] 3 ?_
  refine ⟨rfl, ?_⟩
  refine zv_callV Cx (c_clHas K (A 15) (A 1) (A 2) (A 3) (A 16) O.1 O.2.1 O.2.2.1 O.2.2.2 C.1 C.2.1 C.2.2.1 C.2.2.2 (nI i) hn h0 hcap (fun z => (hs z).1)) (zw_V inX0_has kX8_137 ⟨by show 5 + 1 ≤ 6; omega, by show 8 + (2 + 11) + 146 ≤ 169; omega⟩) [15, 1, 2, 3, 16] 15 rfl rfl rfl rfl (fun _ => Nat.le_refl _) rfl rfl (by decide) dzX8_muOfCuts_5 (by show 0 + ((capR C.2.2.2 O.2.2.2 O.1 O.2.1 O.2.2.1 C.2.1) - C.2.1) ≤ ((capR C.2.2.2 O.2.2.2 O.1 O.2.1 O.2.2.1 C.2.1) - C.2.1) + _; omega) (by show 0 + 2 * ((capR C.2.2.2 O.2.2.2 O.1 O.2.1 O.2.2.1 C.2.1) - C.2.1) ≤ 2 * ((capR C.2.2.2 O.2.2.2 O.1 O.2.1 O.2.2.1 C.2.1) - C.2.1) + _; omega) rfl (fun u hu => ?_)
  refine zv_to Cx rfl rfl (ws' := (wD K (va_up A 16 u.1) O L q W P R (u.2, (capR C.2.2.2 O.2.2.2 O.1 O.2.1 O.2.2.1 C.2.1), nI (cstop O.1 O.2.1 O.2.2.1 + 1), O.2.2.2) M)) rfl ?_
  refine zv_wide Cx (ce' := ((capR C.2.2.2 O.2.2.2 O.1 O.2.1 O.2.2.1 C.2.1) - C.2.1)) (sl' := 2 * ((capR C.2.2.2 O.2.2.2 O.1 O.2.1 O.2.2.1 C.2.1) - C.2.1)) (Nat.le_of_eq (Nat.zero_add _)) (Nat.le_of_eq (Nat.zero_add _)) ?_
  refine zv_go Cx okX8_muOfCuts [] 20 ?_
  refine ⟨fun h1 => ?_, fun h1 => ⟨rfl, ?_⟩⟩
  · rw [bI_0, hasb_nI (by omega) (by omega), decide_eq_false_iff_not] at h1; exact absurd (by omega) h1
  refine zv_callV Cx (c_clHas1 K (A 15) (A 1) (A 2) (A 3) u.1 O.1 O.2.1 O.2.2.1 O.2.2.2 u.2 (capR C.2.2.2 O.2.2.2 O.1 O.2.1 O.2.2.1 C.2.1) (nI (cstop O.1 O.2.1 O.2.2.1 + 1)) (nI j) hn (by omega) hhi hu) (zw_V inX0_has kX8_137 ⟨by show 5 + 1 ≤ 6; omega, by show 8 + (2 + 11) + 146 ≤ 169; omega⟩) [15, 1, 2, 3, 16] 15 rfl rfl rfl rfl (fun _ => Nat.le_refl _) rfl rfl (by decide) dzX8_muOfCuts_16 (by show ((capR C.2.2.2 O.2.2.2 O.1 O.2.1 O.2.2.1 C.2.1) - C.2.1) + 0 ≤ ((capR C.2.2.2 O.2.2.2 O.1 O.2.1 O.2.2.1 C.2.1) - C.2.1) + _; omega) (by show 2 * ((capR C.2.2.2 O.2.2.2 O.1 O.2.1 O.2.2.1 C.2.1) - C.2.1) + 0 ≤ 2 * ((capR C.2.2.2 O.2.2.2 O.1 O.2.1 O.2.2.1 C.2.1) - C.2.1) + _; omega) rfl (fun w hw => ?_)
  refine zv_to Cx rfl rfl (ws' := (wD K (va_up A 16 w.1) O L q W P R (w.2, (capR C.2.2.2 O.2.2.2 O.1 O.2.1 O.2.2.1 C.2.1), nI (cstop O.1 O.2.1 O.2.2.1 + 1), O.2.2.2) M)) rfl ?_
  refine zv_go Cx okX8_muOfCuts [] 6 ?_
  refine ⟨fun h1 => ⟨rfl, ?_⟩, fun h1 => ?_⟩
  rotate_left
  · rw [bI_0, hasb_nI (by omega) (by omega), decide_eq_false_iff_not] at h1; exact absurd (by omega) h1
  refine zv_callV Cx (c_setOf K (A 15) (A 1) (A 2) (A 3) w.1 O.1 O.2.1 O.2.2.1 O.2.2.2 w.2 (capR C.2.2.2 O.2.2.2 O.1 O.2.1 O.2.2.1 C.2.1) (nI (cstop O.1 O.2.1 O.2.2.1 + 1)) O.2.2.2 (k := i) (by omega) hhi) (zw_V inX0_setOf kX8_138 ⟨by show 0 + 1 ≤ 6; omega, by show 8 + (2 + 11) + 0 ≤ 169; omega⟩) [15, 1, 2, 3, 16] 15 rfl rfl rfl rfl (fun _ => Nat.le_refl _) rfl rfl (by decide) dzX8_muOfCuts_29 (by show ((capR C.2.2.2 O.2.2.2 O.1 O.2.1 O.2.2.1 C.2.1) - C.2.1) + 0 + 0 ≤ ((capR C.2.2.2 O.2.2.2 O.1 O.2.1 O.2.2.1 C.2.1) - C.2.1) + _; omega) (by show 2 * ((capR C.2.2.2 O.2.2.2 O.1 O.2.1 O.2.2.1 C.2.1) - C.2.1) + 0 + 0 ≤ 2 * ((capR C.2.2.2 O.2.2.2 O.1 O.2.1 O.2.2.1 C.2.1) - C.2.1) + _; omega) rfl (fun _ _ => ?_)
  refine zv_to Cx rfl rfl (ws' := (wD K (va_up A 16 w.1) O L q W P R (w.2, (capR C.2.2.2 O.2.2.2 O.1 O.2.1 O.2.2.1 C.2.1), nI (cstop O.1 O.2.1 O.2.2.1 + 1), O.2.2.2) M)) rfl ?_
  refine zv_go Cx okX8_muOfCuts [] 4 ?_
  refine ⟨rfl, ?_⟩
  refine zv_callV Cx (c_setOf K (A 15) (A 1) (A 2) (A 3) w.1 O.1 O.2.1 O.2.2.1 O.2.2.2 w.2 (capR C.2.2.2 O.2.2.2 O.1 O.2.1 O.2.2.1 C.2.1) (nI (cstop O.1 O.2.1 O.2.2.1 + 1)) O.2.2.2 (k := j) (by omega) hhi) (zw_V inX0_setOf kX8_138 ⟨by show 0 + 1 ≤ 6; omega, by show 8 + (2 + 11) + 0 ≤ 169; omega⟩) [15, 1, 2, 3, 16] 15 rfl rfl rfl rfl (fun _ => Nat.le_refl _) rfl rfl (by decide) dzX8_muOfCuts_38 (by show ((capR C.2.2.2 O.2.2.2 O.1 O.2.1 O.2.2.1 C.2.1) - C.2.1) + 0 + 0 + 0 ≤ ((capR C.2.2.2 O.2.2.2 O.1 O.2.1 O.2.2.1 C.2.1) - C.2.1) + _; omega) (by show 2 * ((capR C.2.2.2 O.2.2.2 O.1 O.2.1 O.2.2.1 C.2.1) - C.2.1) + 0 + 0 + 0 ≤ 2 * ((capR C.2.2.2 O.2.2.2 O.1 O.2.1 O.2.2.1 C.2.1) - C.2.1) + _; omega) rfl (fun _ _ => ?_)
  refine zv_to Cx rfl rfl (ws' := (wD K (va_up A 16 w.1) O L q W P R (w.2, (capR C.2.2.2 O.2.2.2 O.1 O.2.1 O.2.2.1 C.2.1), nI (cstop O.1 O.2.1 O.2.2.1 + 1), O.2.2.2) M)) rfl ?_
  refine zv_go Cx okX8_muOfCuts [] 3 ?_
  refine ⟨rfl, ?_⟩
  refine zv_callV Cx (c_clear K (A 17) (A 18) (A 19) M.1 M.2.1 M.2.2.1 M.2.2.2) (zw_V inX3_clear kX8_153 ⟨by show 0 + 1 ≤ 6; omega, by show 8 + (1 + 11) + 0 ≤ 169; omega⟩) [17, 18, 19] 17 rfl rfl rfl rfl (fun _ => Nat.le_refl _) rfl rfl (by decide) dzX8_muOfCuts_47 (by show ((capR C.2.2.2 O.2.2.2 O.1 O.2.1 O.2.2.1 C.2.1) - C.2.1) + 0 + 0 + 0 + 0 ≤ ((capR C.2.2.2 O.2.2.2 O.1 O.2.1 O.2.2.1 C.2.1) - C.2.1) + _; omega) (by show 2 * ((capR C.2.2.2 O.2.2.2 O.1 O.2.1 O.2.2.1 C.2.1) - C.2.1) + 0 + 0 + 0 + 0 ≤ 2 * ((capR C.2.2.2 O.2.2.2 O.1 O.2.1 O.2.2.1 C.2.1) - C.2.1) + _; omega) rfl (fun _ _ => ?_)
  refine zv_to Cx (lv' := [(0, .ref (A 0)), (1, .int (nI i)), (2, .int (nI j)), (3, .int (nI (cutv O.1 O.2.1 O.2.2.1 i))), (4, .int (nI (cutv O.1 O.2.1 O.2.2.1 j)))]) (by rw [← hw.2 i hi, ← hw.2 j hj] <;> rfl) rfl (ws' := (wD K (va_up A 16 w.1) O L q W P R (w.2, (capR C.2.2.2 O.2.2.2 O.1 O.2.1 O.2.2.1 C.2.1), nI (cstop O.1 O.2.1 O.2.2.1 + 1), O.2.2.2) (M.1, M.2.1, M.2.2.1, nI 0))) rfl ?_
  have loop : ∀ mm t (s t' : Nat) (sf mf : Nat → Int32) (lv2 : zv_L), t + mm = (j + 1 - i) → (∀ v, v < (mcS O.1 O.2.1 O.2.2.1 (cutv O.1 O.2.1 O.2.2.1 i) (cutv O.1 O.2.1 O.2.2.1 j) i t).2 → sf v = nI ((mcS O.1 O.2.1 O.2.2.1 (cutv O.1 O.2.1 O.2.2.1 i) (cutv O.1 O.2.1 O.2.2.1 j) i t).1 v)) → (lv2 = [] ∨ ∃ z, lv2 = [(6, .int z)]) → zv_V x (gz K (zq 6 (((capR C.2.2.2 O.2.2.2 O.1 O.2.1 O.2.2.1 C.2.1) - C.2.1) + 2 * ((capA M.2.2.1 (mcS O.1 O.2.1 O.2.2.1 (cutv O.1 O.2.1 O.2.2.1 i) (cutv O.1 O.2.1 O.2.2.1 j) i (j + 1 - i)).2) - M.2.2.1)) (2 * ((capR C.2.2.2 O.2.2.2 O.1 O.2.1 O.2.2.1 C.2.1) - C.2.1) + 4 * ((capA M.2.2.1 (mcS O.1 O.2.1 O.2.2.1 (cutv O.1 O.2.1 O.2.2.1 i) (cutv O.1 O.2.1 O.2.2.1 j) i (j + 1 - i)).2) - M.2.2.1)) 169) 7 cX8_muOfCuts yX8_muOfCuts.cls) 53 ([(0, .ref (A 0)), (1, .int (nI i)), (2, .int (nI j)), (3, .int (nI (cutv O.1 O.2.1 O.2.2.1 i))), (4, .int (nI (cutv O.1 O.2.1 O.2.2.1 j))), (5, .int (nI (i + t)))] ++ lv2) [] (wD K (va_up (va_up (va_up A 16 w.1) 18 s) 19 t') O L q W P R (w.2, (capR C.2.2.2 O.2.2.2 O.1 O.2.1 O.2.2.1 C.2.1), nI (cstop O.1 O.2.1 O.2.2.1 + 1), O.2.2.2) (sf, mf, (capA M.2.2.1 (mcS O.1 O.2.1 O.2.2.1 (cutv O.1 O.2.1 O.2.2.1 i) (cutv O.1 O.2.1 O.2.2.1 j) i t).2), nI (mcS O.1 O.2.1 O.2.2.1 (cutv O.1 O.2.1 O.2.2.1 i) (cutv O.1 O.2.1 O.2.2.1 j) i t).2)) (((capR C.2.2.2 O.2.2.2 O.1 O.2.1 O.2.2.1 C.2.1) - C.2.1) + 2 * ((capA M.2.2.1 (mcS O.1 O.2.1 O.2.2.1 (cutv O.1 O.2.1 O.2.2.1 i) (cutv O.1 O.2.1 O.2.2.1 j) i t).2) - M.2.2.1)) (2 * ((capR C.2.2.2 O.2.2.2 O.1 O.2.1 O.2.2.1 C.2.1) - C.2.1) + 4 * ((capA M.2.2.1 (mcS O.1 O.2.1 O.2.2.1 (cutv O.1 O.2.1 O.2.2.1 i) (cutv O.1 O.2.1 O.2.2.1 j) i t).2) - M.2.2.1)) := by
    intro mm
    induction mm with
    | zero =>
      intro t s t' sf mf lv2 ht hsf hl2
      have e1 : t = (j + 1 - i) := by omega
      refine zv_drop Cx [0, 1, 2, 3, 4, 5] (lv' := [(0, .ref (A 0)), (1, .int (nI i)), (2, .int (nI j)), (3, .int (nI (cutv O.1 O.2.1 O.2.2.1 i))), (4, .int (nI (cutv O.1 O.2.1 O.2.2.1 j))), (5, .int (nI (i + t)))]) (by rcases hl2 with rfl | ⟨z, rfl⟩ <;> rfl) ?_
      subst e1
      refine zv_go Cx okX8_muOfCuts [] 20 ?_
      refine ⟨fun _ => ⟨rfl, ?_⟩, fun h => absurd (nI_lt (by omega) (by omega)) h⟩
      refine zv_callV Cx (c_ofFirst K (A 17) s t' sf mf (capA M.2.2.1 (mcS O.1 O.2.1 O.2.2.1 (cutv O.1 O.2.1 O.2.2.1 i) (cutv O.1 O.2.1 O.2.2.1 j) i (j + 1 - i)).2) (mcS O.1 O.2.1 O.2.2.1 (cutv O.1 O.2.1 O.2.2.1 i) (cutv O.1 O.2.1 O.2.2.1 j) i (j + 1 - i)).2 (mcS O.1 O.2.1 O.2.2.1 (cutv O.1 O.2.1 O.2.2.1 i) (cutv O.1 O.2.1 O.2.2.1 j) i (j + 1 - i)).1 hcf.1 hcf.2.1 (by omega) (fun v hv => ⟨hsf v hv, hfin.2 v hv⟩)) (zw_V inX3_ofFirstWithLast kX8_159 ⟨by show 2 + 1 ≤ 6; omega, by show 8 + (2 + 11) + 44 ≤ 169; omega⟩) [17, 18, 19] 17 rfl rfl rfl rfl (fun _ => Nat.le_refl _) rfl rfl (by decide) dzX8_muOfCuts_108 (Nat.le_refl _) (Nat.le_refl _) rfl (fun u _ => ?_)
      exact zr Rx (w, s, t', sf, u) (List.range 20) (some (.int _)) _ rfl rfl hw rfl rfl (Nat.le_refl _) (Nat.le_refl _) dzX8_muOfCuts_111
    | succ mm ih =>
      intro t s t' sf mf lv2 ht hsf hl2
      have hok := mcS_ok (bl := O.1) (ab := O.2.1) (lo := cutv O.1 O.2.1 O.2.2.1 i) (hi := cutv O.1 O.2.1 O.2.2.1 j) (i := i) hn t
      have hck := capA_ok hm0 hmc (mcS O.1 O.2.1 O.2.2.1 (cutv O.1 O.2.1 O.2.2.1 i) (cutv O.1 O.2.1 O.2.2.1 j) i t).2 (by omega)
      have hct := cutv_lt (bl := O.1) (ab := O.2.1) (j := i + t) hn
      have hci := cutv_lt (bl := O.1) (ab := O.2.1) (j := i) hn
      have hc0 : M.2.2.1 ≤ (capA M.2.2.1 (mcS O.1 O.2.1 O.2.2.1 (cutv O.1 O.2.1 O.2.2.1 i) (cutv O.1 O.2.1 O.2.2.1 j) i t).2) := capA_mono M.2.2.1 (Nat.zero_le _)
      have hcT : (capA M.2.2.1 (mcS O.1 O.2.1 O.2.2.1 (cutv O.1 O.2.1 O.2.2.1 i) (cutv O.1 O.2.1 O.2.2.1 j) i t).2) ≤ (capA M.2.2.1 (mcS O.1 O.2.1 O.2.2.1 (cutv O.1 O.2.1 O.2.2.1 i) (cutv O.1 O.2.1 O.2.2.1 j) i (j + 1 - i)).2) := capA_mono M.2.2.1 (mcS_mono (by omega))
      have enx : nI (i + t) + 1 = nI (i + (t + 1)) := by rw [nI_1]; congr 1
      refine zv_drop Cx [0, 1, 2, 3, 4, 5] (lv' := [(0, .ref (A 0)), (1, .int (nI i)), (2, .int (nI j)), (3, .int (nI (cutv O.1 O.2.1 O.2.2.1 i))), (4, .int (nI (cutv O.1 O.2.1 O.2.2.1 j))), (5, .int (nI (i + t)))]) (by rcases hl2 with rfl | ⟨z, rfl⟩ <;> rfl) ?_
      refine zv_go Cx okX8_muOfCuts [] 20 ?_
      refine ⟨fun h => absurd h (nI_nlt (by omega) (by omega)), fun _ => ⟨rfl, ?_⟩⟩
      refine zv_callV Cx (c_setOf K (A 15) (A 1) (A 2) (A 3) w.1 O.1 O.2.1 O.2.2.1 O.2.2.2 w.2 (capR C.2.2.2 O.2.2.2 O.1 O.2.1 O.2.2.1 C.2.1) (nI (cstop O.1 O.2.1 O.2.2.1 + 1)) O.2.2.2 (k := i + t) (by omega) hhi) (zw_V inX0_setOf kX8_138 ⟨by show 0 + 1 ≤ 6; omega, by show 8 + (2 + 11) + 0 ≤ 169; omega⟩) [15, 1, 2, 3, 16] 15 rfl rfl rfl rfl (fun _ => Nat.le_refl _) rfl rfl (by decide) dzX8_muOfCuts_65 (by show (((capR C.2.2.2 O.2.2.2 O.1 O.2.1 O.2.2.1 C.2.1) - C.2.1) + 2 * ((capA M.2.2.1 (mcS O.1 O.2.1 O.2.2.1 (cutv O.1 O.2.1 O.2.2.1 i) (cutv O.1 O.2.1 O.2.2.1 j) i t).2) - M.2.2.1)) + 0 ≤ _ + 2 * ((capA M.2.2.1 (mcS O.1 O.2.1 O.2.2.1 (cutv O.1 O.2.1 O.2.2.1 i) (cutv O.1 O.2.1 O.2.2.1 j) i (j + 1 - i)).2) - M.2.2.1); omega) (by show (2 * ((capR C.2.2.2 O.2.2.2 O.1 O.2.1 O.2.2.1 C.2.1) - C.2.1) + 4 * ((capA M.2.2.1 (mcS O.1 O.2.1 O.2.2.1 (cutv O.1 O.2.1 O.2.2.1 i) (cutv O.1 O.2.1 O.2.2.1 j) i t).2) - M.2.2.1)) + 0 ≤ _ + 4 * ((capA M.2.2.1 (mcS O.1 O.2.1 O.2.2.1 (cutv O.1 O.2.1 O.2.2.1 i) (cutv O.1 O.2.1 O.2.2.1 j) i (j + 1 - i)).2) - M.2.2.1); omega) rfl (fun _ _ => ?_)
      refine zv_to Cx rfl (st' := [.int (nI (cutv O.1 O.2.1 O.2.2.1 (i + t)))]) (by rw [← hw.2 (i + t) (by omega)] <;> rfl) (ws' := (wD K (va_up (va_up (va_up A 16 w.1) 18 s) 19 t') O L q W P R (w.2, (capR C.2.2.2 O.2.2.2 O.1 O.2.1 O.2.2.1 C.2.1), nI (cstop O.1 O.2.1 O.2.2.1 + 1), O.2.2.2) (sf, mf, (capA M.2.2.1 (mcS O.1 O.2.1 O.2.2.1 (cutv O.1 O.2.1 O.2.2.1 i) (cutv O.1 O.2.1 O.2.2.1 j) i t).2), nI (mcS O.1 O.2.1 O.2.2.1 (cutv O.1 O.2.1 O.2.2.1 i) (cutv O.1 O.2.1 O.2.2.1 j) i t).2))) rfl ?_
      refine zv_go Cx okX8_muOfCuts [] 3 ?_
      refine zv_callS Cx (c_isPart K (p := cutv O.1 O.2.1 O.2.2.1 i) (s := cutv O.1 O.2.1 O.2.2.1 (i + t)) (by omega)) (zw_S inX8_isPart kX8_162 ⟨by show 0 + 1 ≤ 6; omega, by show 8 + (2 + 11) + 0 ≤ 169; omega⟩) [] rfl rfl (fun _ => Nat.le_refl _) (rest := []) rfl rfl (Nat.le_of_ble_eq_true rfl) dzX8_muOfCuts_73 (by show (((capR C.2.2.2 O.2.2.2 O.1 O.2.1 O.2.2.1 C.2.1) - C.2.1) + 2 * ((capA M.2.2.1 (mcS O.1 O.2.1 O.2.2.1 (cutv O.1 O.2.1 O.2.2.1 i) (cutv O.1 O.2.1 O.2.2.1 j) i t).2) - M.2.2.1)) + 0 + 0 ≤ _ + 2 * ((capA M.2.2.1 (mcS O.1 O.2.1 O.2.2.1 (cutv O.1 O.2.1 O.2.2.1 i) (cutv O.1 O.2.1 O.2.2.1 j) i (j + 1 - i)).2) - M.2.2.1); omega) (by show (2 * ((capR C.2.2.2 O.2.2.2 O.1 O.2.1 O.2.2.1 C.2.1) - C.2.1) + 4 * ((capA M.2.2.1 (mcS O.1 O.2.1 O.2.2.1 (cutv O.1 O.2.1 O.2.2.1 i) (cutv O.1 O.2.1 O.2.2.1 j) i t).2) - M.2.2.1)) + 0 + 0 ≤ _ + 4 * ((capA M.2.2.1 (mcS O.1 O.2.1 O.2.2.1 (cutv O.1 O.2.1 O.2.2.1 i) (cutv O.1 O.2.1 O.2.2.1 j) i (j + 1 - i)).2) - M.2.2.1); omega) rfl (fun _ _ => ?_)
      refine zv_to Cx rfl rfl (ws' := (wD K (va_up (va_up (va_up A 16 w.1) 18 s) 19 t') O L q W P R (w.2, (capR C.2.2.2 O.2.2.2 O.1 O.2.1 O.2.2.1 C.2.1), nI (cstop O.1 O.2.1 O.2.2.1 + 1), O.2.2.2) (sf, mf, (capA M.2.2.1 (mcS O.1 O.2.1 O.2.2.1 (cutv O.1 O.2.1 O.2.2.1 i) (cutv O.1 O.2.1 O.2.2.1 j) i t).2), nI (mcS O.1 O.2.1 O.2.2.1 (cutv O.1 O.2.1 O.2.2.1 i) (cutv O.1 O.2.1 O.2.2.1 j) i t).2))) rfl ?_
      refine zv_wide Cx (ce' := (((capR C.2.2.2 O.2.2.2 O.1 O.2.1 O.2.2.1 C.2.1) - C.2.1) + 2 * ((capA M.2.2.1 (mcS O.1 O.2.1 O.2.2.1 (cutv O.1 O.2.1 O.2.2.1 i) (cutv O.1 O.2.1 O.2.2.1 j) i t).2) - M.2.2.1))) (sl' := (2 * ((capR C.2.2.2 O.2.2.2 O.1 O.2.1 O.2.2.1 C.2.1) - C.2.1) + 4 * ((capA M.2.2.1 (mcS O.1 O.2.1 O.2.2.1 (cutv O.1 O.2.1 O.2.2.1 i) (cutv O.1 O.2.1 O.2.2.1 j) i t).2) - M.2.2.1))) (Nat.le_refl _) (Nat.le_refl _) ?_
      -- it isn't of the interval
      have skip : ∀ lv3 : zv_L, lv3 = [(0, .ref (A 0)), (1, .int (nI i)), (2, .int (nI j)), (3, .int (nI (cutv O.1 O.2.1 O.2.2.1 i))), (4, .int (nI (cutv O.1 O.2.1 O.2.2.1 j))), (5, .int (nI (i + t))), (6, .int (nI (cutv O.1 O.2.1 O.2.2.1 (i + t))))] → ¬ (ndf (cutv O.1 O.2.1 O.2.2.1 i) (cutv O.1 O.2.1 O.2.2.1 (i + t)) = 0 ∧ ndf (cutv O.1 O.2.1 O.2.2.1 (i + t)) (cutv O.1 O.2.1 O.2.2.1 j) = 0) → zv_V x (gz K (zq 6 (((capR C.2.2.2 O.2.2.2 O.1 O.2.1 O.2.2.1 C.2.1) - C.2.1) + 2 * ((capA M.2.2.1 (mcS O.1 O.2.1 O.2.2.1 (cutv O.1 O.2.1 O.2.2.1 i) (cutv O.1 O.2.1 O.2.2.1 j) i (j + 1 - i)).2) - M.2.2.1)) (2 * ((capR C.2.2.2 O.2.2.2 O.1 O.2.1 O.2.2.1 C.2.1) - C.2.1) + 4 * ((capA M.2.2.1 (mcS O.1 O.2.1 O.2.2.1 (cutv O.1 O.2.1 O.2.2.1 i) (cutv O.1 O.2.1 O.2.2.1 j) i (j + 1 - i)).2) - M.2.2.1)) 169) 7 cX8_muOfCuts yX8_muOfCuts.cls) 98 lv3 [] (wD K (va_up (va_up (va_up A 16 w.1) 18 s) 19 t') O L q W P R (w.2, (capR C.2.2.2 O.2.2.2 O.1 O.2.1 O.2.2.1 C.2.1), nI (cstop O.1 O.2.1 O.2.2.1 + 1), O.2.2.2) (sf, mf, (capA M.2.2.1 (mcS O.1 O.2.1 O.2.2.1 (cutv O.1 O.2.1 O.2.2.1 i) (cutv O.1 O.2.1 O.2.2.1 j) i t).2), nI (mcS O.1 O.2.1 O.2.2.1 (cutv O.1 O.2.1 O.2.2.1 i) (cutv O.1 O.2.1 O.2.2.1 j) i t).2)) (((capR C.2.2.2 O.2.2.2 O.1 O.2.1 O.2.2.1 C.2.1) - C.2.1) + 2 * ((capA M.2.2.1 (mcS O.1 O.2.1 O.2.2.1 (cutv O.1 O.2.1 O.2.2.1 i) (cutv O.1 O.2.1 O.2.2.1 j) i t).2) - M.2.2.1)) (2 * ((capR C.2.2.2 O.2.2.2 O.1 O.2.1 O.2.2.1 C.2.1) - C.2.1) + 4 * ((capA M.2.2.1 (mcS O.1 O.2.1 O.2.2.1 (cutv O.1 O.2.1 O.2.2.1 i) (cutv O.1 O.2.1 O.2.2.1 j) i t).2) - M.2.2.1)) := by
        intro lv3 hl3 hno
        subst hl3
        have e2 : (mcS O.1 O.2.1 O.2.2.1 (cutv O.1 O.2.1 O.2.2.1 i) (cutv O.1 O.2.1 O.2.2.1 j) i (t + 1)) = (mcS O.1 O.2.1 O.2.2.1 (cutv O.1 O.2.1 O.2.2.1 i) (cutv O.1 O.2.1 O.2.2.1 j) i t) := by rw [mcS, if_neg hno]
        have hih := ih (t + 1) s t' sf mf [(6, .int (nI (cutv O.1 O.2.1 O.2.2.1 (i + t))))] (by omega) (by rw [e2]; exact hsf) (Or.inr ⟨_, rfl⟩)
        rw [e2] at hih
        refine zv_go Cx okX8_muOfCuts [53] 3 ?_
        exact zv_to Cx (lv' := [(0, .ref (A 0)), (1, .int (nI i)), (2, .int (nI j)), (3, .int (nI (cutv O.1 O.2.1 O.2.2.1 i))), (4, .int (nI (cutv O.1 O.2.1 O.2.2.1 j))), (5, .int (nI (i + (t + 1)))), (6, .int (nI (cutv O.1 O.2.1 O.2.2.1 (i + t))))]) (by rw [← enx] <;> rfl) rfl rfl hih
      refine zv_go Cx okX8_muOfCuts [98] 3 ?_
      refine ⟨fun h => ?_, fun h => ?_⟩
      · rw [bI_0, decide_eq_false_iff_not] at h
        exact skip _ rfl (fun z => h z.1)
      rw [bI_1, decide_eq_true_eq] at h
      refine zv_callS Cx (c_isPart K (p := cutv O.1 O.2.1 O.2.2.1 (i + t)) (s := cutv O.1 O.2.1 O.2.2.1 j) (by omega)) (zw_S inX8_isPart kX8_162 ⟨by show 0 + 1 ≤ 6; omega, by show 8 + (2 + 11) + 0 ≤ 169; omega⟩) [] rfl rfl (fun _ => Nat.le_refl _) (rest := []) rfl rfl (Nat.le_of_ble_eq_true rfl) dzX8_muOfCuts_83 (by show (((capR C.2.2.2 O.2.2.2 O.1 O.2.1 O.2.2.1 C.2.1) - C.2.1) + 2 * ((capA M.2.2.1 (mcS O.1 O.2.1 O.2.2.1 (cutv O.1 O.2.1 O.2.2.1 i) (cutv O.1 O.2.1 O.2.2.1 j) i t).2) - M.2.2.1)) + 0 ≤ _ + 2 * ((capA M.2.2.1 (mcS O.1 O.2.1 O.2.2.1 (cutv O.1 O.2.1 O.2.2.1 i) (cutv O.1 O.2.1 O.2.2.1 j) i (j + 1 - i)).2) - M.2.2.1); omega) (by show (2 * ((capR C.2.2.2 O.2.2.2 O.1 O.2.1 O.2.2.1 C.2.1) - C.2.1) + 4 * ((capA M.2.2.1 (mcS O.1 O.2.1 O.2.2.1 (cutv O.1 O.2.1 O.2.2.1 i) (cutv O.1 O.2.1 O.2.2.1 j) i t).2) - M.2.2.1)) + 0 ≤ _ + 4 * ((capA M.2.2.1 (mcS O.1 O.2.1 O.2.2.1 (cutv O.1 O.2.1 O.2.2.1 i) (cutv O.1 O.2.1 O.2.2.1 j) i (j + 1 - i)).2) - M.2.2.1); omega) rfl (fun _ _ => ?_)
      refine zv_to Cx rfl rfl (ws' := (wD K (va_up (va_up (va_up A 16 w.1) 18 s) 19 t') O L q W P R (w.2, (capR C.2.2.2 O.2.2.2 O.1 O.2.1 O.2.2.1 C.2.1), nI (cstop O.1 O.2.1 O.2.2.1 + 1), O.2.2.2) (sf, mf, (capA M.2.2.1 (mcS O.1 O.2.1 O.2.2.1 (cutv O.1 O.2.1 O.2.2.1 i) (cutv O.1 O.2.1 O.2.2.1 j) i t).2), nI (mcS O.1 O.2.1 O.2.2.1 (cutv O.1 O.2.1 O.2.2.1 i) (cutv O.1 O.2.1 O.2.2.1 j) i t).2))) rfl ?_
      refine zv_wide Cx (ce' := (((capR C.2.2.2 O.2.2.2 O.1 O.2.1 O.2.2.1 C.2.1) - C.2.1) + 2 * ((capA M.2.2.1 (mcS O.1 O.2.1 O.2.2.1 (cutv O.1 O.2.1 O.2.2.1 i) (cutv O.1 O.2.1 O.2.2.1 j) i t).2) - M.2.2.1))) (sl' := (2 * ((capR C.2.2.2 O.2.2.2 O.1 O.2.1 O.2.2.1 C.2.1) - C.2.1) + 4 * ((capA M.2.2.1 (mcS O.1 O.2.1 O.2.2.1 (cutv O.1 O.2.1 O.2.2.1 i) (cutv O.1 O.2.1 O.2.2.1 j) i t).2) - M.2.2.1))) (Nat.le_refl _) (Nat.le_refl _) ?_
      refine zv_go Cx okX8_muOfCuts [98] 4 ?_
      refine ⟨fun h2 => ?_, fun h2 => ⟨rfl, ?_⟩⟩
      · rw [bI_0, decide_eq_false_iff_not] at h2
        exact skip _ rfl (fun z => h2 z.2)
      rw [bI_1, decide_eq_true_eq] at h2
      have e2 : (mcS O.1 O.2.1 O.2.2.1 (cutv O.1 O.2.1 O.2.2.1 i) (cutv O.1 O.2.1 O.2.2.1 j) i (t + 1)) = (muI (mcS O.1 O.2.1 O.2.2.1 (cutv O.1 O.2.1 O.2.2.1 i) (cutv O.1 O.2.1 O.2.2.1 j) i t).1 (cutv O.1 O.2.1 O.2.2.1 (i + t)) (mcS O.1 O.2.1 O.2.2.1 (cutv O.1 O.2.1 O.2.2.1 i) (cutv O.1 O.2.1 O.2.2.1 j) i t).2, (mcS O.1 O.2.1 O.2.2.1 (cutv O.1 O.2.1 O.2.2.1 i) (cutv O.1 O.2.1 O.2.2.1 j) i t).2 + 1) := by rw [mcS, if_pos ⟨h, h2⟩]
      have hmo := mcS_mono (bl := O.1) (ab := O.2.1) (n := O.2.2.1) (lo := cutv O.1 O.2.1 O.2.2.1 i) (hi := cutv O.1 O.2.1 O.2.2.1 j) (i := i) (k := t + 1) (m := (j + 1 - i)) (by omega)
      have hca : capA M.2.2.1 ((mcS O.1 O.2.1 O.2.2.1 (cutv O.1 O.2.1 O.2.2.1 i) (cutv O.1 O.2.1 O.2.2.1 j) i t).2 + 1) ≤ (capA M.2.2.1 (mcS O.1 O.2.1 O.2.2.1 (cutv O.1 O.2.1 O.2.2.1 i) (cutv O.1 O.2.1 O.2.2.1 j) i (j + 1 - i)).2) := capA_mono _ (by rw [e2] at hmo; exact hmo)
      have hc1 : capA M.2.2.1 ((mcS O.1 O.2.1 O.2.2.1 (cutv O.1 O.2.1 O.2.2.1 i) (cutv O.1 O.2.1 O.2.2.1 j) i t).2 + 1) = capN (capA M.2.2.1 (mcS O.1 O.2.1 O.2.2.1 (cutv O.1 O.2.1 O.2.2.1 i) (cutv O.1 O.2.1 O.2.2.1 j) i t).2) (mcS O.1 O.2.1 O.2.2.1 (cutv O.1 O.2.1 O.2.2.1 i) (cutv O.1 O.2.1 O.2.2.1 j) i t).2 := rfl
      have hc2 := capN_le (capA M.2.2.1 (mcS O.1 O.2.1 O.2.2.1 (cutv O.1 O.2.1 O.2.2.1 i) (cutv O.1 O.2.1 O.2.2.1 j) i t).2) (mcS O.1 O.2.1 O.2.2.1 (cutv O.1 O.2.1 O.2.2.1 i) (cutv O.1 O.2.1 O.2.2.1 j) i t).2
      refine zv_callV Cx (c_muAdd K (A 17) s t' sf mf (capA M.2.2.1 (mcS O.1 O.2.1 O.2.2.1 (cutv O.1 O.2.1 O.2.2.1 i) (cutv O.1 O.2.1 O.2.2.1 j) i t).2) (mcS O.1 O.2.1 O.2.2.1 (cutv O.1 O.2.1 O.2.2.1 i) (cutv O.1 O.2.1 O.2.2.1 j) i t).2 (mcS O.1 O.2.1 O.2.2.1 (cutv O.1 O.2.1 O.2.2.1 i) (cutv O.1 O.2.1 O.2.2.1 j) i t).1 (cutv O.1 O.2.1 O.2.2.1 (i + t)) hck.2.1 hck.1 (by omega) (by omega) (fun v hv => ⟨hsf v hv, hok.2 v hv⟩) hct) (zw_V inX3_add kX8_156 ⟨by show 3 + 1 ≤ 6; omega, by show 8 + (3 + 11) + 102 ≤ 169; omega⟩) [17, 18, 19] 17 rfl rfl rfl rfl (fun _ => Nat.le_refl _) rfl rfl (by decide) dzX8_muOfCuts_95 (by show (((capR C.2.2.2 O.2.2.2 O.1 O.2.1 O.2.2.1 C.2.1) - C.2.1) + 2 * ((capA M.2.2.1 (mcS O.1 O.2.1 O.2.2.1 (cutv O.1 O.2.1 O.2.2.1 i) (cutv O.1 O.2.1 O.2.2.1 j) i t).2) - M.2.2.1)) + 2 * (capN (capA M.2.2.1 (mcS O.1 O.2.1 O.2.2.1 (cutv O.1 O.2.1 O.2.2.1 i) (cutv O.1 O.2.1 O.2.2.1 j) i t).2) (mcS O.1 O.2.1 O.2.2.1 (cutv O.1 O.2.1 O.2.2.1 i) (cutv O.1 O.2.1 O.2.2.1 j) i t).2 - (capA M.2.2.1 (mcS O.1 O.2.1 O.2.2.1 (cutv O.1 O.2.1 O.2.2.1 i) (cutv O.1 O.2.1 O.2.2.1 j) i t).2)) ≤ _ + 2 * ((capA M.2.2.1 (mcS O.1 O.2.1 O.2.2.1 (cutv O.1 O.2.1 O.2.2.1 i) (cutv O.1 O.2.1 O.2.2.1 j) i (j + 1 - i)).2) - M.2.2.1); omega) (by show (2 * ((capR C.2.2.2 O.2.2.2 O.1 O.2.1 O.2.2.1 C.2.1) - C.2.1) + 4 * ((capA M.2.2.1 (mcS O.1 O.2.1 O.2.2.1 (cutv O.1 O.2.1 O.2.2.1 i) (cutv O.1 O.2.1 O.2.2.1 j) i t).2) - M.2.2.1)) + 4 * (capN (capA M.2.2.1 (mcS O.1 O.2.1 O.2.2.1 (cutv O.1 O.2.1 O.2.2.1 i) (cutv O.1 O.2.1 O.2.2.1 j) i t).2) (mcS O.1 O.2.1 O.2.2.1 (cutv O.1 O.2.1 O.2.2.1 i) (cutv O.1 O.2.1 O.2.2.1 j) i t).2 - (capA M.2.2.1 (mcS O.1 O.2.1 O.2.2.1 (cutv O.1 O.2.1 O.2.2.1 i) (cutv O.1 O.2.1 O.2.2.1 j) i t).2)) ≤ _ + 4 * ((capA M.2.2.1 (mcS O.1 O.2.1 O.2.2.1 (cutv O.1 O.2.1 O.2.2.1 i) (cutv O.1 O.2.1 O.2.2.1 j) i (j + 1 - i)).2) - M.2.2.1); omega) rfl (fun u hu => ?_)
      have hih := ih (t + 1) u.1 u.2.1 u.2.2.1 u.2.2.2 [(6, .int (nI (cutv O.1 O.2.1 O.2.2.1 (i + t))))] (by omega) (by rw [e2]; exact hu) (Or.inr ⟨_, rfl⟩)
      rw [e2] at hih
      refine zv_go Cx okX8_muOfCuts [53] 3 ?_
      refine zv_wide Cx (ce' := ((capR C.2.2.2 O.2.2.2 O.1 O.2.1 O.2.2.1 C.2.1) - C.2.1) + 2 * (capA M.2.2.1 ((mcS O.1 O.2.1 O.2.2.1 (cutv O.1 O.2.1 O.2.2.1 i) (cutv O.1 O.2.1 O.2.2.1 j) i t).2 + 1) - M.2.2.1)) (sl' := 2 * ((capR C.2.2.2 O.2.2.2 O.1 O.2.1 O.2.2.1 C.2.1) - C.2.1) + 4 * (capA M.2.2.1 ((mcS O.1 O.2.1 O.2.2.1 (cutv O.1 O.2.1 O.2.2.1 i) (cutv O.1 O.2.1 O.2.2.1 j) i t).2 + 1) - M.2.2.1)) (by show (((capR C.2.2.2 O.2.2.2 O.1 O.2.1 O.2.2.1 C.2.1) - C.2.1) + 2 * ((capA M.2.2.1 (mcS O.1 O.2.1 O.2.2.1 (cutv O.1 O.2.1 O.2.2.1 i) (cutv O.1 O.2.1 O.2.2.1 j) i t).2) - M.2.2.1)) + 2 * (capN (capA M.2.2.1 (mcS O.1 O.2.1 O.2.2.1 (cutv O.1 O.2.1 O.2.2.1 i) (cutv O.1 O.2.1 O.2.2.1 j) i t).2) (mcS O.1 O.2.1 O.2.2.1 (cutv O.1 O.2.1 O.2.2.1 i) (cutv O.1 O.2.1 O.2.2.1 j) i t).2 - (capA M.2.2.1 (mcS O.1 O.2.1 O.2.2.1 (cutv O.1 O.2.1 O.2.2.1 i) (cutv O.1 O.2.1 O.2.2.1 j) i t).2)) ≤ ((capR C.2.2.2 O.2.2.2 O.1 O.2.1 O.2.2.1 C.2.1) - C.2.1) + 2 * (capN (capA M.2.2.1 (mcS O.1 O.2.1 O.2.2.1 (cutv O.1 O.2.1 O.2.2.1 i) (cutv O.1 O.2.1 O.2.2.1 j) i t).2) (mcS O.1 O.2.1 O.2.2.1 (cutv O.1 O.2.1 O.2.2.1 i) (cutv O.1 O.2.1 O.2.2.1 j) i t).2 - M.2.2.1); omega) (by show (2 * ((capR C.2.2.2 O.2.2.2 O.1 O.2.1 O.2.2.1 C.2.1) - C.2.1) + 4 * ((capA M.2.2.1 (mcS O.1 O.2.1 O.2.2.1 (cutv O.1 O.2.1 O.2.2.1 i) (cutv O.1 O.2.1 O.2.2.1 j) i t).2) - M.2.2.1)) + 4 * (capN (capA M.2.2.1 (mcS O.1 O.2.1 O.2.2.1 (cutv O.1 O.2.1 O.2.2.1 i) (cutv O.1 O.2.1 O.2.2.1 j) i t).2) (mcS O.1 O.2.1 O.2.2.1 (cutv O.1 O.2.1 O.2.2.1 i) (cutv O.1 O.2.1 O.2.2.1 j) i t).2 - (capA M.2.2.1 (mcS O.1 O.2.1 O.2.2.1 (cutv O.1 O.2.1 O.2.2.1 i) (cutv O.1 O.2.1 O.2.2.1 j) i t).2)) ≤ 2 * ((capR C.2.2.2 O.2.2.2 O.1 O.2.1 O.2.2.1 C.2.1) - C.2.1) + 4 * (capN (capA M.2.2.1 (mcS O.1 O.2.1 O.2.2.1 (cutv O.1 O.2.1 O.2.2.1 i) (cutv O.1 O.2.1 O.2.2.1 j) i t).2) (mcS O.1 O.2.1 O.2.2.1 (cutv O.1 O.2.1 O.2.2.1 i) (cutv O.1 O.2.1 O.2.2.1 j) i t).2 - M.2.2.1); omega) ?_
      exact zv_to Cx (lv' := [(0, .ref (A 0)), (1, .int (nI i)), (2, .int (nI j)), (3, .int (nI (cutv O.1 O.2.1 O.2.2.1 i))), (4, .int (nI (cutv O.1 O.2.1 O.2.2.1 j))), (5, .int (nI (i + (t + 1)))), (6, .int (nI (cutv O.1 O.2.1 O.2.2.1 (i + t))))]) (by rw [← enx] <;> rfl) rfl (ws' := (wD K (va_up (va_up (va_up A 16 w.1) 18 u.1) 19 u.2.1) O L q W P R (w.2, (capR C.2.2.2 O.2.2.2 O.1 O.2.1 O.2.2.1 C.2.1), nI (cstop O.1 O.2.1 O.2.2.1 + 1), O.2.2.2) (u.2.2.1, u.2.2.2, capA M.2.2.1 ((mcS O.1 O.2.1 O.2.2.1 (cutv O.1 O.2.1 O.2.2.1 i) (cutv O.1 O.2.1 O.2.2.1 j) i t).2 + 1), nI ((mcS O.1 O.2.1 O.2.2.1 (cutv O.1 O.2.1 O.2.2.1 i) (cutv O.1 O.2.1 O.2.2.1 j) i t).2 + 1)))) rfl hih
  refine zv_go Cx okX8_muOfCuts [53] 20 ?_
  refine zv_wide Cx (ce' := ((capR C.2.2.2 O.2.2.2 O.1 O.2.1 O.2.2.1 C.2.1) - C.2.1) + 2 * ((capA M.2.2.1 (mcS O.1 O.2.1 O.2.2.1 (cutv O.1 O.2.1 O.2.2.1 i) (cutv O.1 O.2.1 O.2.2.1 j) i 0).2) - M.2.2.1)) (sl' := 2 * ((capR C.2.2.2 O.2.2.2 O.1 O.2.1 O.2.2.1 C.2.1) - C.2.1) + 4 * ((capA M.2.2.1 (mcS O.1 O.2.1 O.2.2.1 (cutv O.1 O.2.1 O.2.2.1 i) (cutv O.1 O.2.1 O.2.2.1 j) i 0).2) - M.2.2.1)) (by show ((capR C.2.2.2 O.2.2.2 O.1 O.2.1 O.2.2.1 C.2.1) - C.2.1) + 0 + 0 + 0 + 0 ≤ ((capR C.2.2.2 O.2.2.2 O.1 O.2.1 O.2.2.1 C.2.1) - C.2.1) + _; omega) (by show 2 * ((capR C.2.2.2 O.2.2.2 O.1 O.2.1 O.2.2.1 C.2.1) - C.2.1) + 0 + 0 + 0 + 0 ≤ 2 * ((capR C.2.2.2 O.2.2.2 O.1 O.2.1 O.2.2.1 C.2.1) - C.2.1) + _; omega) ?_
  exact zv_to Cx rfl rfl rfl (loop (j + 1 - i) 0 (A 18) (A 19) M.1 M.2.1 [] (by omega) (fun v hv => absurd hv (Nat.not_lt_zero _)) (Or.inl rfl))
end ZI
end
section
/-! THE DESK: its constructor -/
theorem zk_oi8 : Jvm.Cond.methodLink RX8 1 objectInit ∈ zt := by decide +kernel
/-- twenty addresses -/
def zAd (a0 a1 a2 a3 a4 a5 a6 a7 a8 a9 a10 a11 a12 a13 a14 a15 a16 a17 a18 a19 : Nat) : Nat → Nat := fun k => [a0, a1, a2, a3, a4, a5, a6, a7, a8, a9, a10, a11, a12, a13, a14, a15, a16, a17, a18, a19].getD k 0
/-- a new desk: one thing, nothing kept -/
abbrev wD0 (K : zK) (A : Nat → Nat) : va_W := wD K A (fun _ => 0, fun _ => 0, 1, 0) (fun _ => 0, fun _ => 0, 0, -1) (fun _ => 0, 0, 0) (0, -1) (fun _ => 0, -1) (fun _ => 0, fun _ => 0, 16, 0, -1, -1) (fun _ => 0, 16, 0, -1) (fun _ => 0, fun _ => 0, 16, 0)
set_option maxHeartbeats 8000000 in
set_option maxRecDepth 100000 in
theorem d_init (K : zK) (z : Nat) : zM (S := Nat → Nat) K yX8_init cX8_init 2 none (zq 2 19 198 38) [.ref z] [(z, .inr (8, [.null, .null, .null, .null, .null, .null, .null]))] (fun u => u 0 = z) (fun _ => none) (fun u => wD0 K u) := by
  refine zo (by decide) (Nat.le_of_ble_eq_true rfl) fun x C R hin => ?_
  refine zv_go C okX8_init [] 1 ?_
  refine zv_objInit C zk_oi8 zk_oi1 zk_oi2 rfl dzX8_init_1 (by decide) (by decide) rfl ?_
  refine zv_go C okX8_init [] 1 ?_
  refine zv_new C (ci := 4) (Cn := RX4) (T := TX4) (N := 4) (fs := [.null, .null, .int 0, .int 0]) rfl (by decide +kernel) fsX4 dzX8_init_5 (by decide) (by decide) rfl (fun z4 => ?_)
  refine zv_to C rfl rfl (ws' := [(z, .inr (8, [.null, .null, .null, .null, .null, .null, .null])), (z4, .inr (4, [.null, .null, .int 0, .int 0]))]) rfl ?_
  refine zv_go C okX8_init [] 1 ?_
  refine zv_callIN C (c_initX4 K z4) (zk_IN_in kX8_9) (zw_IN inX4_init kX8_9 ⟨by decide, by decide⟩) [1] rfl rfl (fun _ => Nat.le_of_ble_eq_true rfl) (rest := [.ref z4, .ref z]) rfl rfl (Nat.le_of_ble_eq_true rfl) dzX8_init_9 (by decide) (by decide) rfl (fun u4 _ => ?_)
  refine zv_to C rfl rfl (ws' := [(z, .inr (8, [.null, .null, .null, .null, .null, .null, .null])), (z4, .inr (4, [.ref u4.1, .ref u4.2, .int 1, .int 0])), (u4.1, .inl (cI K, 14, .inl (fun _ => 0))), (u4.2, .inl (cI K, 14, .inl (fun _ => 0)))]) rfl ?_
  refine zv_putF C hin 0 8 0 2 (T := TX8) rfl (by decide +kernel) rfl rfl rfl rfl (Nat.le_of_ble_eq_true rfl) dzX8_init_12 rfl ?_
  refine zv_to C rfl rfl (ws' := [(z, .inr (8, [.ref z4, .null, .null, .null, .null, .null, .null])), (z4, .inr (4, [.ref u4.1, .ref u4.2, .int 1, .int 0])), (u4.1, .inl (cI K, 14, .inl (fun _ => 0))), (u4.2, .inl (cI K, 14, .inl (fun _ => 0)))]) rfl ?_
  refine zv_new C (ci := 2) (Cn := RX2) (T := TX2) (N := 4) (fs := [.null, .null, .int 0, .int 0]) rfl (by decide +kernel) fsX2 dzX8_init_15 (by decide) (by decide) rfl (fun z2 => ?_)
  refine zv_to C rfl rfl (ws' := [(z, .inr (8, [.ref z4, .null, .null, .null, .null, .null, .null])), (z4, .inr (4, [.ref u4.1, .ref u4.2, .int 1, .int 0])), (u4.1, .inl (cI K, 14, .inl (fun _ => 0))), (u4.2, .inl (cI K, 14, .inl (fun _ => 0))), (z2, .inr (2, [.null, .null, .int 0, .int 0]))]) rfl ?_
  refine zv_go C okX8_init [] 3 ?_
  refine ⟨rfl, ?_⟩
  refine zv_callI C (c_initX2 K z2 z4) (zw_I inX2_init kX8_18 ⟨by decide, by decide⟩) [4] rfl rfl (fun _ => Nat.le_of_ble_eq_true rfl) (rest := [.ref z2]) rfl rfl (Nat.le_of_ble_eq_true rfl) dzX8_init_23 (by decide) (by decide) rfl (fun u2 _ => ?_)
  refine zv_to C rfl rfl (ws' := [(z, .inr (8, [.ref z4, .null, .null, .null, .null, .null, .null])), (z4, .inr (4, [.ref u4.1, .ref u4.2, .int 1, .int 0])), (u4.1, .inl (cI K, 14, .inl (fun _ => 0))), (u4.2, .inl (cI K, 14, .inl (fun _ => 0))), (z2, .inr (2, [.ref z4, .ref u2, .int 0, .int 0])), (u2, .inl (cI K, 14, .inl (fun _ => 0)))]) rfl ?_
  refine zv_go C okX8_init [] 1 ?_
  refine zv_go C okX8_init [] 1 ?_
  refine zv_new C (ci := 1) (Cn := RX1) (T := TX1) (N := 5) (fs := [.null, .null, .null, .int 0, .int 0]) rfl (by decide +kernel) fsX1 dzX8_init_28 (by decide) (by decide) rfl (fun z1 => ?_)
  refine zv_to C rfl rfl (ws' := [(z, .inr (8, [.ref z4, .null, .null, .null, .null, .null, .null])), (z4, .inr (4, [.ref u4.1, .ref u4.2, .int 1, .int 0])), (u4.1, .inl (cI K, 14, .inl (fun _ => 0))), (u4.2, .inl (cI K, 14, .inl (fun _ => 0))), (z2, .inr (2, [.ref z4, .ref u2, .int 0, .int 0])), (u2, .inl (cI K, 14, .inl (fun _ => 0))), (z1, .inr (1, [.null, .null, .null, .int 0, .int 0]))]) rfl ?_
  refine zv_go C okX8_init [] 3 ?_
  refine ⟨rfl, ?_⟩
  refine zv_callI C (c_initX1 K z1 z4) (zw_I inX1_init kX8_23 ⟨by decide, by decide⟩) [6] rfl rfl (fun _ => Nat.le_of_ble_eq_true rfl) (rest := [.ref z1, .ref z]) rfl rfl (Nat.le_of_ble_eq_true rfl) dzX8_init_36 (by decide) (by decide) rfl (fun u1 _ => ?_)
  refine zv_to C rfl rfl (ws' := [(z, .inr (8, [.ref z4, .null, .null, .null, .null, .null, .null])), (z4, .inr (4, [.ref u4.1, .ref u4.2, .int 1, .int 0])), (u4.1, .inl (cI K, 14, .inl (fun _ => 0))), (u4.2, .inl (cI K, 14, .inl (fun _ => 0))), (z2, .inr (2, [.ref z4, .ref u2, .int 0, .int 0])), (u2, .inl (cI K, 14, .inl (fun _ => 0))), (z1, .inr (1, [.ref z4, .ref u1.1, .ref u1.2, .int 0, .int (-1)])), (u1.1, .inl (cI K, 14, .inl (fun _ => 0))), (u1.2, .inl (cI K, 14, .inl (fun _ => 0)))]) rfl ?_
  refine zv_putF C hin 0 8 1 2 (T := TX8) rfl (by decide +kernel) rfl rfl rfl rfl (Nat.le_of_ble_eq_true rfl) dzX8_init_39 rfl ?_
  refine zv_to C rfl rfl (ws' := [(z, .inr (8, [.ref z4, .ref z1, .null, .null, .null, .null, .null])), (z4, .inr (4, [.ref u4.1, .ref u4.2, .int 1, .int 0])), (u4.1, .inl (cI K, 14, .inl (fun _ => 0))), (u4.2, .inl (cI K, 14, .inl (fun _ => 0))), (z2, .inr (2, [.ref z4, .ref u2, .int 0, .int 0])), (u2, .inl (cI K, 14, .inl (fun _ => 0))), (z1, .inr (1, [.ref z4, .ref u1.1, .ref u1.2, .int 0, .int (-1)])), (u1.1, .inl (cI K, 14, .inl (fun _ => 0))), (u1.2, .inl (cI K, 14, .inl (fun _ => 0)))]) rfl ?_
  refine zv_go C okX8_init [] 1 ?_
  refine zv_new C (ci := 7) (Cn := RX7) (T := TX7) (N := 4) (fs := [.null, .null, .int 0, .int 0]) rfl (by decide +kernel) fsX7 dzX8_init_43 (by decide) (by decide) rfl (fun z7 => ?_)
  refine zv_to C rfl rfl (ws' := [(z, .inr (8, [.ref z4, .ref z1, .null, .null, .null, .null, .null])), (z4, .inr (4, [.ref u4.1, .ref u4.2, .int 1, .int 0])), (u4.1, .inl (cI K, 14, .inl (fun _ => 0))), (u4.2, .inl (cI K, 14, .inl (fun _ => 0))), (z2, .inr (2, [.ref z4, .ref u2, .int 0, .int 0])), (u2, .inl (cI K, 14, .inl (fun _ => 0))), (z1, .inr (1, [.ref z4, .ref u1.1, .ref u1.2, .int 0, .int (-1)])), (u1.1, .inl (cI K, 14, .inl (fun _ => 0))), (u1.2, .inl (cI K, 14, .inl (fun _ => 0))), (z7, .inr (7, [.null, .null, .int 0, .int 0]))]) rfl ?_
  refine zv_go C okX8_init [] 4 ?_
  refine ⟨rfl, ?_⟩
  refine zv_callI C (c_initX7 K z7 z4 z2) (zw_I inX7_init kX8_30 ⟨by decide, by decide⟩) [9] rfl rfl (fun _ => Nat.le_of_ble_eq_true rfl) (rest := [.ref z7, .ref z]) rfl rfl (Nat.le_of_ble_eq_true rfl) dzX8_init_52 (by decide) (by decide) rfl (fun _u7 _ => ?_)
  refine zv_to C rfl rfl (ws' := [(z, .inr (8, [.ref z4, .ref z1, .null, .null, .null, .null, .null])), (z4, .inr (4, [.ref u4.1, .ref u4.2, .int 1, .int 0])), (u4.1, .inl (cI K, 14, .inl (fun _ => 0))), (u4.2, .inl (cI K, 14, .inl (fun _ => 0))), (z2, .inr (2, [.ref z4, .ref u2, .int 0, .int 0])), (u2, .inl (cI K, 14, .inl (fun _ => 0))), (z1, .inr (1, [.ref z4, .ref u1.1, .ref u1.2, .int 0, .int (-1)])), (u1.1, .inl (cI K, 14, .inl (fun _ => 0))), (u1.2, .inl (cI K, 14, .inl (fun _ => 0))), (z7, .inr (7, [.ref z4, .ref z2, .int 0, .int (-1)]))]) rfl ?_
  refine zv_putF C hin 0 8 2 2 (T := TX8) rfl (by decide +kernel) rfl rfl rfl rfl (Nat.le_of_ble_eq_true rfl) dzX8_init_55 rfl ?_
  refine zv_to C rfl rfl (ws' := [(z, .inr (8, [.ref z4, .ref z1, .ref z7, .null, .null, .null, .null])), (z4, .inr (4, [.ref u4.1, .ref u4.2, .int 1, .int 0])), (u4.1, .inl (cI K, 14, .inl (fun _ => 0))), (u4.2, .inl (cI K, 14, .inl (fun _ => 0))), (z2, .inr (2, [.ref z4, .ref u2, .int 0, .int 0])), (u2, .inl (cI K, 14, .inl (fun _ => 0))), (z1, .inr (1, [.ref z4, .ref u1.1, .ref u1.2, .int 0, .int (-1)])), (u1.1, .inl (cI K, 14, .inl (fun _ => 0))), (u1.2, .inl (cI K, 14, .inl (fun _ => 0))), (z7, .inr (7, [.ref z4, .ref z2, .int 0, .int (-1)]))]) rfl ?_
  refine zv_go C okX8_init [] 1 ?_
  refine zv_new C (ci := 5) (Cn := RX5) (T := TX5) (N := 4) (fs := [.null, .null, .null, .int 0]) rfl (by decide +kernel) fsX5 dzX8_init_59 (by decide) (by decide) rfl (fun z5 => ?_)
  refine zv_to C rfl rfl (ws' := [(z, .inr (8, [.ref z4, .ref z1, .ref z7, .null, .null, .null, .null])), (z4, .inr (4, [.ref u4.1, .ref u4.2, .int 1, .int 0])), (u4.1, .inl (cI K, 14, .inl (fun _ => 0))), (u4.2, .inl (cI K, 14, .inl (fun _ => 0))), (z2, .inr (2, [.ref z4, .ref u2, .int 0, .int 0])), (u2, .inl (cI K, 14, .inl (fun _ => 0))), (z1, .inr (1, [.ref z4, .ref u1.1, .ref u1.2, .int 0, .int (-1)])), (u1.1, .inl (cI K, 14, .inl (fun _ => 0))), (u1.2, .inl (cI K, 14, .inl (fun _ => 0))), (z7, .inr (7, [.ref z4, .ref z2, .int 0, .int (-1)])), (z5, .inr (5, [.null, .null, .null, .int 0]))]) rfl ?_
  refine zv_go C okX8_init [] 4 ?_
  refine ⟨rfl, ?_⟩
  refine zv_callI C (c_initX5 K z5 z4 z2) (zw_I inX5_init kX8_39 ⟨by decide, by decide⟩) [10] rfl rfl (fun _ => Nat.le_of_ble_eq_true rfl) (rest := [.ref z5, .ref z]) rfl rfl (Nat.le_of_ble_eq_true rfl) dzX8_init_68 (by decide) (by decide) rfl (fun u5 _ => ?_)
  refine zv_to C rfl rfl (ws' := [(z, .inr (8, [.ref z4, .ref z1, .ref z7, .null, .null, .null, .null])), (z4, .inr (4, [.ref u4.1, .ref u4.2, .int 1, .int 0])), (u4.1, .inl (cI K, 14, .inl (fun _ => 0))), (u4.2, .inl (cI K, 14, .inl (fun _ => 0))), (z2, .inr (2, [.ref z4, .ref u2, .int 0, .int 0])), (u2, .inl (cI K, 14, .inl (fun _ => 0))), (z1, .inr (1, [.ref z4, .ref u1.1, .ref u1.2, .int 0, .int (-1)])), (u1.1, .inl (cI K, 14, .inl (fun _ => 0))), (u1.2, .inl (cI K, 14, .inl (fun _ => 0))), (z7, .inr (7, [.ref z4, .ref z2, .int 0, .int (-1)])), (z5, .inr (5, [.ref z4, .ref z2, .ref u5, .int (-1)])), (u5, .inl (cI K, 14, .inl (fun _ => 0)))]) rfl ?_
  refine zv_putF C hin 0 8 3 2 (T := TX8) rfl (by decide +kernel) rfl rfl rfl rfl (Nat.le_of_ble_eq_true rfl) dzX8_init_71 rfl ?_
  refine zv_to C rfl rfl (ws' := [(z, .inr (8, [.ref z4, .ref z1, .ref z7, .ref z5, .null, .null, .null])), (z4, .inr (4, [.ref u4.1, .ref u4.2, .int 1, .int 0])), (u4.1, .inl (cI K, 14, .inl (fun _ => 0))), (u4.2, .inl (cI K, 14, .inl (fun _ => 0))), (z2, .inr (2, [.ref z4, .ref u2, .int 0, .int 0])), (u2, .inl (cI K, 14, .inl (fun _ => 0))), (z1, .inr (1, [.ref z4, .ref u1.1, .ref u1.2, .int 0, .int (-1)])), (u1.1, .inl (cI K, 14, .inl (fun _ => 0))), (u1.2, .inl (cI K, 14, .inl (fun _ => 0))), (z7, .inr (7, [.ref z4, .ref z2, .int 0, .int (-1)])), (z5, .inr (5, [.ref z4, .ref z2, .ref u5, .int (-1)])), (u5, .inl (cI K, 14, .inl (fun _ => 0)))]) rfl ?_
  refine zv_go C okX8_init [] 1 ?_
  refine zv_new C (ci := 6) (Cn := RX6) (T := TX6) (N := 6) (fs := [.null, .null, .null, .int 0, .int 0, .int 0]) rfl (by decide +kernel) fsX6 dzX8_init_75 (by decide) (by decide) rfl (fun z6 => ?_)
  refine zv_to C rfl rfl (ws' := [(z, .inr (8, [.ref z4, .ref z1, .ref z7, .ref z5, .null, .null, .null])), (z4, .inr (4, [.ref u4.1, .ref u4.2, .int 1, .int 0])), (u4.1, .inl (cI K, 14, .inl (fun _ => 0))), (u4.2, .inl (cI K, 14, .inl (fun _ => 0))), (z2, .inr (2, [.ref z4, .ref u2, .int 0, .int 0])), (u2, .inl (cI K, 14, .inl (fun _ => 0))), (z1, .inr (1, [.ref z4, .ref u1.1, .ref u1.2, .int 0, .int (-1)])), (u1.1, .inl (cI K, 14, .inl (fun _ => 0))), (u1.2, .inl (cI K, 14, .inl (fun _ => 0))), (z7, .inr (7, [.ref z4, .ref z2, .int 0, .int (-1)])), (z5, .inr (5, [.ref z4, .ref z2, .ref u5, .int (-1)])), (u5, .inl (cI K, 14, .inl (fun _ => 0))), (z6, .inr (6, [.null, .null, .null, .int 0, .int 0, .int 0]))]) rfl ?_
  refine zv_go C okX8_init [] 3 ?_
  refine ⟨rfl, ?_⟩
  refine zv_callI C (c_initX6 K z6 z4) (zw_I inX6_init kX8_46 ⟨by decide, by decide⟩) [12] rfl rfl (fun _ => Nat.le_of_ble_eq_true rfl) (rest := [.ref z6, .ref z]) rfl rfl (Nat.le_of_ble_eq_true rfl) dzX8_init_83 (by decide) (by decide) rfl (fun u6 _ => ?_)
  refine zv_to C rfl rfl (ws' := [(z, .inr (8, [.ref z4, .ref z1, .ref z7, .ref z5, .null, .null, .null])), (z4, .inr (4, [.ref u4.1, .ref u4.2, .int 1, .int 0])), (u4.1, .inl (cI K, 14, .inl (fun _ => 0))), (u4.2, .inl (cI K, 14, .inl (fun _ => 0))), (z2, .inr (2, [.ref z4, .ref u2, .int 0, .int 0])), (u2, .inl (cI K, 14, .inl (fun _ => 0))), (z1, .inr (1, [.ref z4, .ref u1.1, .ref u1.2, .int 0, .int (-1)])), (u1.1, .inl (cI K, 14, .inl (fun _ => 0))), (u1.2, .inl (cI K, 14, .inl (fun _ => 0))), (z7, .inr (7, [.ref z4, .ref z2, .int 0, .int (-1)])), (z5, .inr (5, [.ref z4, .ref z2, .ref u5, .int (-1)])), (u5, .inl (cI K, 14, .inl (fun _ => 0))), (z6, .inr (6, [.ref z4, .ref u6.1, .ref u6.2, .int 0, .int (-1), .int (-1)])), (u6.1, .inl (cJ K, 16, .inr (.inl (fun _ => 0)))), (u6.2, .inl (cJ K, 16, .inr (.inl (fun _ => 0))))]) rfl ?_
  refine zv_putF C hin 0 8 4 2 (T := TX8) rfl (by decide +kernel) rfl rfl rfl rfl (Nat.le_of_ble_eq_true rfl) dzX8_init_86 rfl ?_
  refine zv_to C rfl rfl (ws' := [(z, .inr (8, [.ref z4, .ref z1, .ref z7, .ref z5, .ref z6, .null, .null])), (z4, .inr (4, [.ref u4.1, .ref u4.2, .int 1, .int 0])), (u4.1, .inl (cI K, 14, .inl (fun _ => 0))), (u4.2, .inl (cI K, 14, .inl (fun _ => 0))), (z2, .inr (2, [.ref z4, .ref u2, .int 0, .int 0])), (u2, .inl (cI K, 14, .inl (fun _ => 0))), (z1, .inr (1, [.ref z4, .ref u1.1, .ref u1.2, .int 0, .int (-1)])), (u1.1, .inl (cI K, 14, .inl (fun _ => 0))), (u1.2, .inl (cI K, 14, .inl (fun _ => 0))), (z7, .inr (7, [.ref z4, .ref z2, .int 0, .int (-1)])), (z5, .inr (5, [.ref z4, .ref z2, .ref u5, .int (-1)])), (u5, .inl (cI K, 14, .inl (fun _ => 0))), (z6, .inr (6, [.ref z4, .ref u6.1, .ref u6.2, .int 0, .int (-1), .int (-1)])), (u6.1, .inl (cJ K, 16, .inr (.inl (fun _ => 0)))), (u6.2, .inl (cJ K, 16, .inr (.inl (fun _ => 0))))]) rfl ?_
  refine zv_go C okX8_init [] 1 ?_
  refine zv_new C (ci := 0) (Cn := RX0) (T := TX0) (N := 4) (fs := [.null, .null, .int 0, .int 0]) rfl (by decide +kernel) fsX0 dzX8_init_90 (by decide) (by decide) rfl (fun z0 => ?_)
  refine zv_to C rfl rfl (ws' := [(z, .inr (8, [.ref z4, .ref z1, .ref z7, .ref z5, .ref z6, .null, .null])), (z4, .inr (4, [.ref u4.1, .ref u4.2, .int 1, .int 0])), (u4.1, .inl (cI K, 14, .inl (fun _ => 0))), (u4.2, .inl (cI K, 14, .inl (fun _ => 0))), (z2, .inr (2, [.ref z4, .ref u2, .int 0, .int 0])), (u2, .inl (cI K, 14, .inl (fun _ => 0))), (z1, .inr (1, [.ref z4, .ref u1.1, .ref u1.2, .int 0, .int (-1)])), (u1.1, .inl (cI K, 14, .inl (fun _ => 0))), (u1.2, .inl (cI K, 14, .inl (fun _ => 0))), (z7, .inr (7, [.ref z4, .ref z2, .int 0, .int (-1)])), (z5, .inr (5, [.ref z4, .ref z2, .ref u5, .int (-1)])), (u5, .inl (cI K, 14, .inl (fun _ => 0))), (z6, .inr (6, [.ref z4, .ref u6.1, .ref u6.2, .int 0, .int (-1), .int (-1)])), (u6.1, .inl (cJ K, 16, .inr (.inl (fun _ => 0)))), (u6.2, .inl (cJ K, 16, .inr (.inl (fun _ => 0)))), (z0, .inr (0, [.null, .null, .int 0, .int 0]))]) rfl ?_
  refine zv_go C okX8_init [] 3 ?_
  refine ⟨rfl, ?_⟩
  refine zv_callI C (c_initX0 K z0 z4) (zw_I inX0_init kX8_53 ⟨by decide, by decide⟩) [15] rfl rfl (fun _ => Nat.le_of_ble_eq_true rfl) (rest := [.ref z0, .ref z]) rfl rfl (Nat.le_of_ble_eq_true rfl) dzX8_init_98 (by decide) (by decide) rfl (fun u0 _ => ?_)
  refine zv_to C rfl rfl (ws' := [(z, .inr (8, [.ref z4, .ref z1, .ref z7, .ref z5, .ref z6, .null, .null])), (z4, .inr (4, [.ref u4.1, .ref u4.2, .int 1, .int 0])), (u4.1, .inl (cI K, 14, .inl (fun _ => 0))), (u4.2, .inl (cI K, 14, .inl (fun _ => 0))), (z2, .inr (2, [.ref z4, .ref u2, .int 0, .int 0])), (u2, .inl (cI K, 14, .inl (fun _ => 0))), (z1, .inr (1, [.ref z4, .ref u1.1, .ref u1.2, .int 0, .int (-1)])), (u1.1, .inl (cI K, 14, .inl (fun _ => 0))), (u1.2, .inl (cI K, 14, .inl (fun _ => 0))), (z7, .inr (7, [.ref z4, .ref z2, .int 0, .int (-1)])), (z5, .inr (5, [.ref z4, .ref z2, .ref u5, .int (-1)])), (u5, .inl (cI K, 14, .inl (fun _ => 0))), (z6, .inr (6, [.ref z4, .ref u6.1, .ref u6.2, .int 0, .int (-1), .int (-1)])), (u6.1, .inl (cJ K, 16, .inr (.inl (fun _ => 0)))), (u6.2, .inl (cJ K, 16, .inr (.inl (fun _ => 0)))), (z0, .inr (0, [.ref z4, .ref u0, .int 0, .int (-1)])), (u0, .inl (cI K, 16, .inl (fun _ => 0)))]) rfl ?_
  refine zv_putF C hin 0 8 5 2 (T := TX8) rfl (by decide +kernel) rfl rfl rfl rfl (Nat.le_of_ble_eq_true rfl) dzX8_init_101 rfl ?_
  refine zv_to C rfl rfl (ws' := [(z, .inr (8, [.ref z4, .ref z1, .ref z7, .ref z5, .ref z6, .ref z0, .null])), (z4, .inr (4, [.ref u4.1, .ref u4.2, .int 1, .int 0])), (u4.1, .inl (cI K, 14, .inl (fun _ => 0))), (u4.2, .inl (cI K, 14, .inl (fun _ => 0))), (z2, .inr (2, [.ref z4, .ref u2, .int 0, .int 0])), (u2, .inl (cI K, 14, .inl (fun _ => 0))), (z1, .inr (1, [.ref z4, .ref u1.1, .ref u1.2, .int 0, .int (-1)])), (u1.1, .inl (cI K, 14, .inl (fun _ => 0))), (u1.2, .inl (cI K, 14, .inl (fun _ => 0))), (z7, .inr (7, [.ref z4, .ref z2, .int 0, .int (-1)])), (z5, .inr (5, [.ref z4, .ref z2, .ref u5, .int (-1)])), (u5, .inl (cI K, 14, .inl (fun _ => 0))), (z6, .inr (6, [.ref z4, .ref u6.1, .ref u6.2, .int 0, .int (-1), .int (-1)])), (u6.1, .inl (cJ K, 16, .inr (.inl (fun _ => 0)))), (u6.2, .inl (cJ K, 16, .inr (.inl (fun _ => 0)))), (z0, .inr (0, [.ref z4, .ref u0, .int 0, .int (-1)])), (u0, .inl (cI K, 16, .inl (fun _ => 0)))]) rfl ?_
  refine zv_go C okX8_init [] 1 ?_
  refine zv_new C (ci := 3) (Cn := RX3) (T := TX3) (N := 3) (fs := [.null, .null, .int 0]) rfl (by decide +kernel) fsX3 dzX8_init_105 (by decide) (by decide) rfl (fun z3 => ?_)
  refine zv_to C rfl rfl (ws' := [(z, .inr (8, [.ref z4, .ref z1, .ref z7, .ref z5, .ref z6, .ref z0, .null])), (z4, .inr (4, [.ref u4.1, .ref u4.2, .int 1, .int 0])), (u4.1, .inl (cI K, 14, .inl (fun _ => 0))), (u4.2, .inl (cI K, 14, .inl (fun _ => 0))), (z2, .inr (2, [.ref z4, .ref u2, .int 0, .int 0])), (u2, .inl (cI K, 14, .inl (fun _ => 0))), (z1, .inr (1, [.ref z4, .ref u1.1, .ref u1.2, .int 0, .int (-1)])), (u1.1, .inl (cI K, 14, .inl (fun _ => 0))), (u1.2, .inl (cI K, 14, .inl (fun _ => 0))), (z7, .inr (7, [.ref z4, .ref z2, .int 0, .int (-1)])), (z5, .inr (5, [.ref z4, .ref z2, .ref u5, .int (-1)])), (u5, .inl (cI K, 14, .inl (fun _ => 0))), (z6, .inr (6, [.ref z4, .ref u6.1, .ref u6.2, .int 0, .int (-1), .int (-1)])), (u6.1, .inl (cJ K, 16, .inr (.inl (fun _ => 0)))), (u6.2, .inl (cJ K, 16, .inr (.inl (fun _ => 0)))), (z0, .inr (0, [.ref z4, .ref u0, .int 0, .int (-1)])), (u0, .inl (cI K, 16, .inl (fun _ => 0))), (z3, .inr (3, [.null, .null, .int 0]))]) rfl ?_
  refine zv_go C okX8_init [] 1 ?_
  refine zv_callIN C (c_initX3 K z3) (zk_IN_in kX8_60) (zw_IN inX3_init kX8_60 ⟨by decide, by decide⟩) [17] rfl rfl (fun _ => Nat.le_of_ble_eq_true rfl) (rest := [.ref z3, .ref z]) rfl rfl (Nat.le_of_ble_eq_true rfl) dzX8_init_109 (by decide) (by decide) rfl (fun u3 _ => ?_)
  refine zv_to C rfl rfl (ws' := [(z, .inr (8, [.ref z4, .ref z1, .ref z7, .ref z5, .ref z6, .ref z0, .null])), (z4, .inr (4, [.ref u4.1, .ref u4.2, .int 1, .int 0])), (u4.1, .inl (cI K, 14, .inl (fun _ => 0))), (u4.2, .inl (cI K, 14, .inl (fun _ => 0))), (z2, .inr (2, [.ref z4, .ref u2, .int 0, .int 0])), (u2, .inl (cI K, 14, .inl (fun _ => 0))), (z1, .inr (1, [.ref z4, .ref u1.1, .ref u1.2, .int 0, .int (-1)])), (u1.1, .inl (cI K, 14, .inl (fun _ => 0))), (u1.2, .inl (cI K, 14, .inl (fun _ => 0))), (z7, .inr (7, [.ref z4, .ref z2, .int 0, .int (-1)])), (z5, .inr (5, [.ref z4, .ref z2, .ref u5, .int (-1)])), (u5, .inl (cI K, 14, .inl (fun _ => 0))), (z6, .inr (6, [.ref z4, .ref u6.1, .ref u6.2, .int 0, .int (-1), .int (-1)])), (u6.1, .inl (cJ K, 16, .inr (.inl (fun _ => 0)))), (u6.2, .inl (cJ K, 16, .inr (.inl (fun _ => 0)))), (z0, .inr (0, [.ref z4, .ref u0, .int 0, .int (-1)])), (u0, .inl (cI K, 16, .inl (fun _ => 0))), (z3, .inr (3, [.ref u3.1, .ref u3.2, .int 0])), (u3.1, .inl (cI K, 16, .inl (fun _ => 0))), (u3.2, .inl (cI K, 16, .inl (fun _ => 0)))]) rfl ?_
  refine zv_putF C hin 0 8 6 2 (T := TX8) rfl (by decide +kernel) rfl rfl rfl rfl (Nat.le_of_ble_eq_true rfl) dzX8_init_112 rfl ?_
  refine zv_to C rfl rfl (ws' := [(z, .inr (8, [.ref z4, .ref z1, .ref z7, .ref z5, .ref z6, .ref z0, .ref z3])), (z4, .inr (4, [.ref u4.1, .ref u4.2, .int 1, .int 0])), (u4.1, .inl (cI K, 14, .inl (fun _ => 0))), (u4.2, .inl (cI K, 14, .inl (fun _ => 0))), (z2, .inr (2, [.ref z4, .ref u2, .int 0, .int 0])), (u2, .inl (cI K, 14, .inl (fun _ => 0))), (z1, .inr (1, [.ref z4, .ref u1.1, .ref u1.2, .int 0, .int (-1)])), (u1.1, .inl (cI K, 14, .inl (fun _ => 0))), (u1.2, .inl (cI K, 14, .inl (fun _ => 0))), (z7, .inr (7, [.ref z4, .ref z2, .int 0, .int (-1)])), (z5, .inr (5, [.ref z4, .ref z2, .ref u5, .int (-1)])), (u5, .inl (cI K, 14, .inl (fun _ => 0))), (z6, .inr (6, [.ref z4, .ref u6.1, .ref u6.2, .int 0, .int (-1), .int (-1)])), (u6.1, .inl (cJ K, 16, .inr (.inl (fun _ => 0)))), (u6.2, .inl (cJ K, 16, .inr (.inl (fun _ => 0)))), (z0, .inr (0, [.ref z4, .ref u0, .int 0, .int (-1)])), (u0, .inl (cI K, 16, .inl (fun _ => 0))), (z3, .inr (3, [.ref u3.1, .ref u3.2, .int 0])), (u3.1, .inl (cI K, 16, .inl (fun _ => 0))), (u3.2, .inl (cI K, 16, .inl (fun _ => 0)))]) rfl ?_
  exact zr R (zAd z z4 u4.1 u4.2 z1 u1.1 u1.2 z2 u2 z7 z5 u5 z6 u6.1 u6.2 z0 u0 z3 u3.1 u3.2) [0, 1, 2, 3, 6, 7, 8, 4, 5, 9, 10, 11, 12, 13, 14, 15, 16, 17, 18, 19] none _ rfl rfl rfl rfl rfl (by decide) (by decide) dzX8_init_115
end
section
def tbX9_init : List zv_I := [(0, .aload_n 0, 1, (0, 0, 0, 0, 0, 0)), (1, .invokespecial 1, 4, (0, 0, 0, 0, 0, 0)), (4, .aload_n 0, 5, (0, 0, 0, 0, 0, 0)), (5, .iconst 1, 6, (0, 0, 0, 0, 1, 0)), (6, .putfield 7, 9, (0, 9, 0, 0, 0, 0)), (9, .aload_n 0, 10, (0, 0, 0, 0, 0, 0)), (10, .sipush 256, 13, (0, 0, 0, 0, 256, 0)), (13, .newarray .boolean, 15, (0, 0, 0, 0, 0, 0)), (18, .aload_n 0, 19, (0, 0, 0, 0, 0, 0)), (19, .sipush 256, 22, (0, 0, 0, 0, 256, 0)), (22, .newarray .boolean, 24, (0, 0, 0, 0, 0, 0)), (27, .aload_n 0, 28, (0, 0, 0, 0, 0, 0)), (28, .sipush 16384, 31, (0, 0, 0, 0, 16384, 0)), (31, .newarray .long, 33, (0, 0, 0, 0, 0, 0)), (36, .aload_n 0, 37, (0, 0, 0, 0, 0, 0)), (37, .sipush 16384, 40, (0, 0, 0, 0, 16384, 0)), (40, .newarray .int, 42, (0, 0, 0, 0, 0, 0)), (45, .aload_n 0, 46, (0, 0, 0, 0, 0, 0)), (46, .sipush 16384, 49, (0, 0, 0, 0, 16384, 0)), (49, .newarray .int, 51, (0, 0, 0, 0, 0, 0)), (54, .aload_n 0, 55, (0, 0, 0, 0, 0, 0)), (55, .ldc 31, 57, (0, 0, 0, 0, 245760, 0)), (57, .newarray .byte, 59, (0, 0, 0, 0, 0, 0)), (62, .aload_n 0, 63, (0, 0, 0, 0, 0, 0)), (63, .bipush 14, 65, (0, 0, 0, 0, 14, 0)), (65, .newarray .int, 67, (0, 0, 0, 0, 0, 0)), (70, .aload_n 0, 71, (0, 0, 0, 0, 0, 0)), (71, .bipush 14, 73, (0, 0, 0, 0, 14, 0)), (73, .newarray .int, 75, (0, 0, 0, 0, 0, 0)), (78, .return_, 79, (0, 0, 0, 0, 0, 0))]
theorem okX9_init : zv_ok 1 cX9_init RX9 zt vwCl tbX9_init = true := by decide +kernel
theorem dzX9_init_1 : decode cX9_init 1 = .ok (.invokespecial 1, 3) := by decide +kernel
theorem dzX9_init_13 : decode cX9_init 13 = .ok (.newarray .boolean, 2) := by decide +kernel
theorem dzX9_init_15 : decode cX9_init 15 = .ok (.putfield 13, 3) := by decide +kernel
theorem dzX9_init_22 : decode cX9_init 22 = .ok (.newarray .boolean, 2) := by decide +kernel
theorem dzX9_init_24 : decode cX9_init 24 = .ok (.putfield 17, 3) := by decide +kernel
theorem dzX9_init_31 : decode cX9_init 31 = .ok (.newarray .long, 2) := by decide +kernel
theorem dzX9_init_33 : decode cX9_init 33 = .ok (.putfield 20, 3) := by decide +kernel
theorem dzX9_init_40 : decode cX9_init 40 = .ok (.newarray .int, 2) := by decide +kernel
theorem dzX9_init_42 : decode cX9_init 42 = .ok (.putfield 24, 3) := by decide +kernel
theorem dzX9_init_49 : decode cX9_init 49 = .ok (.newarray .int, 2) := by decide +kernel
theorem dzX9_init_51 : decode cX9_init 51 = .ok (.putfield 28, 3) := by decide +kernel
theorem dzX9_init_57 : decode cX9_init 57 = .ok (.newarray .byte, 2) := by decide +kernel
theorem dzX9_init_59 : decode cX9_init 59 = .ok (.putfield 32, 3) := by decide +kernel
theorem dzX9_init_65 : decode cX9_init 65 = .ok (.newarray .int, 2) := by decide +kernel
theorem dzX9_init_67 : decode cX9_init 67 = .ok (.putfield 36, 3) := by decide +kernel
theorem dzX9_init_73 : decode cX9_init 73 = .ok (.newarray .int, 2) := by decide +kernel
theorem dzX9_init_75 : decode cX9_init 75 = .ok (.putfield 39, 3) := by decide +kernel
theorem dzX9_init_78 : decode cX9_init 78 = .ok (.return_, 1) := by decide +kernel
set_option maxRecDepth 100000 in
theorem inX9_init : Jvm.Cond.code yX9_init cX9_init 1 none ∈ zt := List.mem_filter.mpr ⟨List.mem_append_right _ (List.mem_of_getElem? (i := 574) rfl), rfl⟩
def tbX9_has : List zv_I := [(0, .iload_n 1, 1, (0, 0, 0, 0, 0, 0)), (1, .ifCond .lt 15, 4, (16, 0, 0, 0, 0, 0)), (4, .iload_n 1, 5, (0, 0, 0, 0, 0, 0)), (5, .aload_n 0, 6, (0, 0, 0, 0, 0, 0)), (6, .getfield 7, 9, (0, 9, 0, 0, 0, 0)), (9, .if_icmp .ge 7, 12, (16, 0, 0, 0, 0, 0)), (12, .iconst 1, 13, (0, 0, 0, 0, 1, 0)), (13, .goto 4, 16, (17, 0, 0, 0, 0, 0)), (16, .iconst 0, 17, (0, 0, 0, 0, 0, 0)), (17, .ireturn, 18, (0, 0, 0, 0, 0, 0))]
theorem okX9_has : zv_ok 2 cX9_has RX9 zt vwCl tbX9_has = true := by decide +kernel
theorem dzX9_has_17 : decode cX9_has 17 = .ok (.ireturn, 1) := by decide +kernel
set_option maxRecDepth 100000 in
theorem inX9_has : Jvm.Cond.code yX9_has cX9_has 2 ((some .boolean)) ∈ zt := List.mem_filter.mpr ⟨List.mem_append_right _ (List.mem_of_getElem? (i := 621) rfl), rfl⟩
def tbX9_is : List zv_I := [(0, .aload_n 0, 1, (0, 0, 0, 0, 0, 0)), (1, .getfield 13, 4, (0, 9, 1, 0, 0, 0)), (4, .bipush 16, 6, (0, 0, 0, 0, 16, 0)), (6, .iload_n 1, 7, (0, 0, 0, 0, 0, 0)), (7, .imul, 8, (0, 0, 0, 0, 0, 0)), (8, .iload_n 2, 9, (0, 0, 0, 0, 0, 0)), (9, .iadd, 10, (0, 0, 0, 0, 0, 0)), (10, .baload, 11, (1, 3, 0, 3, 0, 0)), (11, .ireturn, 12, (0, 0, 0, 0, 0, 0))]
theorem okX9_is : zv_ok 3 cX9_is RX9 zt vwCl tbX9_is = true := by decide +kernel
theorem dzX9_is_11 : decode cX9_is 11 = .ok (.ireturn, 1) := by decide +kernel
set_option maxRecDepth 100000 in
theorem inX9_is : Jvm.Cond.code yX9_is cX9_is 3 ((some .boolean)) ∈ zt := List.mem_filter.mpr ⟨List.mem_append_right _ (List.mem_of_getElem? (i := 625) rfl), rfl⟩
def tbX9_isIn : List zv_I := [(0, .iload_n 0, 1, (0, 0, 0, 0, 0, 0)), (1, .iload_n 1, 2, (0, 0, 0, 0, 0, 0)), (2, .ishr, 3, (0, 0, 0, 0, 0, 0)), (3, .iconst 1, 4, (0, 0, 0, 0, 1, 0)), (4, .iand, 5, (0, 0, 0, 0, 0, 0)), (5, .iconst 1, 6, (0, 0, 0, 0, 1, 0)), (6, .if_icmp .ne 7, 9, (13, 0, 0, 0, 0, 0)), (9, .iconst 1, 10, (0, 0, 0, 0, 1, 0)), (10, .goto 4, 13, (14, 0, 0, 0, 0, 0)), (13, .iconst 0, 14, (0, 0, 0, 0, 0, 0)), (14, .ireturn, 15, (0, 0, 0, 0, 0, 0))]
theorem okX9_isIn : zv_ok 2 cX9_isIn RX9 zt vwCl tbX9_isIn = true := by decide +kernel
theorem dzX9_isIn_14 : decode cX9_isIn 14 = .ok (.ireturn, 1) := by decide +kernel
set_option maxRecDepth 100000 in
theorem inX9_isIn : Jvm.Cond.code yX9_isIn cX9_isIn 2 ((some .boolean)) ∈ zt := List.mem_filter.mpr ⟨List.mem_append_right _ (List.mem_of_getElem? (i := 663) rfl), rfl⟩
def tbX9_size : List zv_I := [(0, .iconst 0, 1, (0, 0, 0, 0, 0, 0)), (1, .istore_n 1, 2, (0, 0, 0, 0, 0, 0)), (2, .iconst 0, 3, (0, 0, 0, 0, 0, 0)), (3, .istore_n 2, 4, (0, 0, 0, 0, 0, 0)), (4, .iload_n 2, 5, (0, 0, 0, 0, 0, 0)), (5, .bipush 31, 7, (0, 0, 0, 0, 31, 0)), (7, .if_icmp .ge 17, 10, (24, 0, 0, 0, 0, 0)), (10, .iload_n 1, 11, (0, 0, 0, 0, 0, 0)), (11, .iload_n 0, 12, (0, 0, 0, 0, 0, 0)), (12, .iload_n 2, 13, (0, 0, 0, 0, 0, 0)), (13, .ishr, 14, (0, 0, 0, 0, 0, 0)), (14, .iconst 1, 15, (0, 0, 0, 0, 1, 0)), (15, .iand, 16, (0, 0, 0, 0, 0, 0)), (16, .iadd, 17, (0, 0, 0, 0, 0, 0)), (17, .istore_n 1, 18, (0, 0, 0, 0, 0, 0)), (18, .iinc 2 1, 21, (0, 0, 0, 0, 1, 0)), (21, .goto (-17), 24, (4, 0, 0, 0, 0, 0)), (24, .iload_n 1, 25, (0, 0, 0, 0, 0, 0)), (25, .ireturn, 26, (0, 0, 0, 0, 0, 0))]
theorem okX9_size : zv_ok 3 cX9_size RX9 zt vwCl tbX9_size = true := by decide +kernel
theorem dzX9_size_25 : decode cX9_size 25 = .ok (.ireturn, 1) := by decide +kernel
set_option maxRecDepth 100000 in
theorem inX9_size : Jvm.Cond.code yX9_size cX9_size 3 ((some .int)) ∈ zt := List.mem_filter.mpr ⟨List.mem_append_right _ (List.mem_of_getElem? (i := 656) rfl), rfl⟩
def tbX9_all : List zv_I := [(0, .iconst 1, 1, (0, 0, 0, 0, 1, 0)), (1, .aload_n 0, 2, (0, 0, 0, 0, 0, 0)), (2, .getfield 7, 5, (0, 9, 0, 0, 0, 0)), (5, .ishl, 6, (0, 0, 0, 0, 0, 0)), (6, .iconst 1, 7, (0, 0, 0, 0, 1, 0)), (7, .isub, 8, (0, 0, 0, 0, 0, 0)), (8, .ireturn, 9, (0, 0, 0, 0, 0, 0))]
theorem okX9_all : zv_ok 1 cX9_all RX9 zt vwCl tbX9_all = true := by decide +kernel
theorem dzX9_all_8 : decode cX9_all 8 = .ok (.ireturn, 1) := by decide +kernel
set_option maxRecDepth 100000 in
theorem inX9_all : Jvm.Cond.code yX9_all cX9_all 1 ((some .int)) ∈ zt := List.mem_filter.mpr ⟨List.mem_append_right _ (List.mem_of_getElem? (i := 653) rfl), rfl⟩
def tbX9_begin : List zv_I := [(0, .iload_n 1, 1, (0, 0, 0, 0, 0, 0)), (1, .iconst 1, 2, (0, 0, 0, 0, 1, 0)), (2, .if_icmp .lt 9, 5, (11, 0, 0, 0, 0, 0)), (5, .iload_n 1, 6, (0, 0, 0, 0, 0, 0)), (6, .bipush 14, 8, (0, 0, 0, 0, 14, 0)), (8, .if_icmp .le 5, 11, (13, 0, 0, 0, 0, 0)), (11, .iconst (-1), 12, (0, 0, 0, 0, (-1), 0)), (12, .ireturn, 13, (0, 0, 0, 0, 0, 0)), (13, .aload_n 0, 14, (0, 0, 0, 0, 0, 0)), (14, .iload_n 1, 15, (0, 0, 0, 0, 0, 0)), (15, .putfield 7, 18, (0, 9, 0, 0, 0, 0)), (18, .iconst 0, 19, (0, 0, 0, 0, 0, 0)), (19, .istore_n 2, 20, (0, 0, 0, 0, 0, 0)), (20, .iload_n 2, 21, (0, 0, 0, 0, 0, 0)), (21, .sipush 256, 24, (0, 0, 0, 0, 256, 0)), (24, .if_icmp .ge 16, 27, (40, 0, 0, 0, 0, 0)), (27, .aload_n 0, 28, (0, 0, 0, 0, 0, 0)), (28, .getfield 13, 31, (0, 9, 1, 0, 0, 0)), (31, .iload_n 2, 32, (0, 0, 0, 0, 0, 0)), (32, .iconst 0, 33, (0, 0, 0, 0, 0, 0)), (33, .bastore, 34, (1, 3, 0, 3, 0, 0)), (34, .iinc 2 1, 37, (0, 0, 0, 0, 1, 0)), (37, .goto (-17), 40, (20, 0, 0, 0, 0, 0)), (40, .aload_n 0, 41, (0, 0, 0, 0, 0, 0)), (41, .getfield 7, 44, (0, 9, 0, 0, 0, 0)), (44, .ireturn, 45, (0, 0, 0, 0, 0, 0))]
theorem okX9_begin : zv_ok 3 cX9_begin RX9 zt vwCl tbX9_begin = true := by decide +kernel
theorem dzX9_begin_12 : decode cX9_begin 12 = .ok (.ireturn, 1) := by decide +kernel
theorem dzX9_begin_44 : decode cX9_begin 44 = .ok (.ireturn, 1) := by decide +kernel
set_option maxRecDepth 100000 in
theorem inX9_begin : Jvm.Cond.code yX9_begin cX9_begin 3 ((some .int)) ∈ zt := List.mem_filter.mpr ⟨List.mem_append_right _ (List.mem_of_getElem? (i := 613) rfl), rfl⟩
def tbX9_put : List zv_I := [(0, .aload_n 0, 1, (0, 0, 0, 0, 0, 0)), (1, .iload_n 1, 2, (0, 0, 0, 0, 0, 0)), (2, .invokevirtual 42, 5, (0, 0, 0, 0, 0, 0)), (5, .ifCond .eq 25, 8, (30, 0, 0, 0, 0, 0)), (8, .aload_n 0, 9, (0, 0, 0, 0, 0, 0)), (9, .iload_n 2, 10, (0, 0, 0, 0, 0, 0)), (10, .invokevirtual 42, 13, (0, 0, 0, 0, 0, 0)), (13, .ifCond .eq 17, 16, (30, 0, 0, 0, 0, 0)), (16, .iload_n 1, 17, (0, 0, 0, 0, 0, 0)), (17, .iload_n 2, 18, (0, 0, 0, 0, 0, 0)), (18, .if_icmp .eq 12, 21, (30, 0, 0, 0, 0, 0)), (21, .aload_n 0, 22, (0, 0, 0, 0, 0, 0)), (22, .iload_n 2, 23, (0, 0, 0, 0, 0, 0)), (23, .iload_n 1, 24, (0, 0, 0, 0, 0, 0)), (24, .invokevirtual 46, 27, (0, 0, 0, 0, 0, 0)), (27, .ifCond .eq 5, 30, (32, 0, 0, 0, 0, 0)), (30, .iconst (-1), 31, (0, 0, 0, 0, (-1), 0)), (31, .ireturn, 32, (0, 0, 0, 0, 0, 0)), (32, .aload_n 0, 33, (0, 0, 0, 0, 0, 0)), (33, .invokevirtual 50, 36, (0, 0, 0, 0, 0, 0)), (36, .istore_n 3, 37, (0, 0, 0, 0, 0, 0)), (37, .aload_n 0, 38, (0, 0, 0, 0, 0, 0)), (38, .getfield 13, 41, (0, 9, 1, 0, 0, 0)), (41, .bipush 16, 43, (0, 0, 0, 0, 16, 0)), (43, .iload_n 1, 44, (0, 0, 0, 0, 0, 0)), (44, .imul, 45, (0, 0, 0, 0, 0, 0)), (45, .iload_n 2, 46, (0, 0, 0, 0, 0, 0)), (46, .iadd, 47, (0, 0, 0, 0, 0, 0)), (47, .iconst 1, 48, (0, 0, 0, 0, 1, 0)), (48, .bastore, 49, (1, 3, 0, 3, 0, 0)), (49, .aload_n 0, 50, (0, 0, 0, 0, 0, 0)), (50, .aload_n 0, 51, (0, 0, 0, 0, 0, 0)), (51, .getfield 13, 54, (0, 9, 1, 0, 0, 0)), (54, .invokevirtual 54, 57, (0, 0, 0, 0, 0, 0)), (57, .aload_n 0, 58, (0, 0, 0, 0, 0, 0)), (58, .invokevirtual 50, 61, (0, 0, 0, 0, 0, 0)), (61, .iload_n 3, 62, (0, 0, 0, 0, 0, 0)), (62, .isub, 63, (0, 0, 0, 0, 0, 0)), (63, .ireturn, 64, (0, 0, 0, 0, 0, 0))]
theorem okX9_put : zv_ok 4 cX9_put RX9 zt vwCl tbX9_put = true := by decide +kernel
theorem dzX9_put_2 : decode cX9_put 2 = .ok (.invokevirtual 42, 3) := by decide +kernel
theorem dzX9_put_10 : decode cX9_put 10 = .ok (.invokevirtual 42, 3) := by decide +kernel
theorem dzX9_put_24 : decode cX9_put 24 = .ok (.invokevirtual 46, 3) := by decide +kernel
theorem dzX9_put_31 : decode cX9_put 31 = .ok (.ireturn, 1) := by decide +kernel
theorem dzX9_put_33 : decode cX9_put 33 = .ok (.invokevirtual 50, 3) := by decide +kernel
theorem dzX9_put_54 : decode cX9_put 54 = .ok (.invokevirtual 54, 3) := by decide +kernel
theorem dzX9_put_58 : decode cX9_put 58 = .ok (.invokevirtual 50, 3) := by decide +kernel
theorem dzX9_put_63 : decode cX9_put 63 = .ok (.ireturn, 1) := by decide +kernel
set_option maxRecDepth 100000 in
theorem inX9_put : Jvm.Cond.code yX9_put cX9_put 4 ((some .int)) ∈ zt := List.mem_filter.mpr ⟨List.mem_append_right _ (List.mem_of_getElem? (i := 617) rfl), rfl⟩
def tbX9_close : List zv_I := [(0, .iconst 1, 1, (0, 0, 0, 0, 1, 0)), (1, .istore_n 2, 2, (0, 0, 0, 0, 0, 0)), (2, .iload_n 2, 3, (0, 0, 0, 0, 0, 0)), (3, .ifCond .eq 109, 6, (112, 0, 0, 0, 0, 0)), (6, .iconst 0, 7, (0, 0, 0, 0, 0, 0)), (7, .istore_n 2, 8, (0, 0, 0, 0, 0, 0)), (8, .iconst 0, 9, (0, 0, 0, 0, 0, 0)), (9, .istore_n 3, 10, (0, 0, 0, 0, 0, 0)), (10, .iload_n 3, 11, (0, 0, 0, 0, 0, 0)), (11, .aload_n 0, 12, (0, 0, 0, 0, 0, 0)), (12, .getfield 7, 15, (0, 9, 0, 0, 0, 0)), (15, .if_icmp .ge 94, 18, (109, 0, 0, 0, 0, 0)), (18, .iconst 0, 19, (0, 0, 0, 0, 0, 0)), (19, .istore 4, 21, (0, 0, 0, 0, 0, 0)), (21, .iload 4, 23, (0, 0, 0, 0, 0, 0)), (23, .aload_n 0, 24, (0, 0, 0, 0, 0, 0)), (24, .getfield 7, 27, (0, 9, 0, 0, 0, 0)), (27, .if_icmp .ge 76, 30, (103, 0, 0, 0, 0, 0)), (30, .iconst 0, 31, (0, 0, 0, 0, 0, 0)), (31, .istore 5, 33, (0, 0, 0, 0, 0, 0)), (33, .iload 5, 35, (0, 0, 0, 0, 0, 0)), (35, .aload_n 0, 36, (0, 0, 0, 0, 0, 0)), (36, .getfield 7, 39, (0, 9, 0, 0, 0, 0)), (39, .if_icmp .ge 58, 42, (97, 0, 0, 0, 0, 0)), (42, .aload_n 1, 43, (0, 0, 0, 0, 0, 0)), (43, .bipush 16, 45, (0, 0, 0, 0, 16, 0)), (45, .iload_n 3, 46, (0, 0, 0, 0, 0, 0)), (46, .imul, 47, (0, 0, 0, 0, 0, 0)), (47, .iload 4, 49, (0, 0, 0, 0, 0, 0)), (49, .iadd, 50, (0, 0, 0, 0, 0, 0)), (50, .baload, 51, (1, 3, 0, 3, 0, 0)), (51, .ifCond .eq 40, 54, (91, 0, 0, 0, 0, 0)), (54, .aload_n 1, 55, (0, 0, 0, 0, 0, 0)), (55, .bipush 16, 57, (0, 0, 0, 0, 16, 0)), (57, .iload 4, 59, (0, 0, 0, 0, 0, 0)), (59, .imul, 60, (0, 0, 0, 0, 0, 0)), (60, .iload 5, 62, (0, 0, 0, 0, 0, 0)), (62, .iadd, 63, (0, 0, 0, 0, 0, 0)), (63, .baload, 64, (1, 3, 0, 3, 0, 0)), (64, .ifCond .eq 27, 67, (91, 0, 0, 0, 0, 0)), (67, .aload_n 1, 68, (0, 0, 0, 0, 0, 0)), (68, .bipush 16, 70, (0, 0, 0, 0, 16, 0)), (70, .iload_n 3, 71, (0, 0, 0, 0, 0, 0)), (71, .imul, 72, (0, 0, 0, 0, 0, 0)), (72, .iload 5, 74, (0, 0, 0, 0, 0, 0)), (74, .iadd, 75, (0, 0, 0, 0, 0, 0)), (75, .baload, 76, (1, 3, 0, 3, 0, 0)), (76, .ifCond .ne 15, 79, (91, 0, 0, 0, 0, 0)), (79, .aload_n 1, 80, (0, 0, 0, 0, 0, 0)), (80, .bipush 16, 82, (0, 0, 0, 0, 16, 0)), (82, .iload_n 3, 83, (0, 0, 0, 0, 0, 0)), (83, .imul, 84, (0, 0, 0, 0, 0, 0)), (84, .iload 5, 86, (0, 0, 0, 0, 0, 0)), (86, .iadd, 87, (0, 0, 0, 0, 0, 0)), (87, .iconst 1, 88, (0, 0, 0, 0, 1, 0)), (88, .bastore, 89, (1, 3, 0, 3, 0, 0)), (89, .iconst 1, 90, (0, 0, 0, 0, 1, 0)), (90, .istore_n 2, 91, (0, 0, 0, 0, 0, 0)), (91, .iinc 5 1, 94, (0, 0, 0, 0, 1, 0)), (94, .goto (-61), 97, (33, 0, 0, 0, 0, 0)), (97, .iinc 4 1, 100, (0, 0, 0, 0, 1, 0)), (100, .goto (-79), 103, (21, 0, 0, 0, 0, 0)), (103, .iinc 3 1, 106, (0, 0, 0, 0, 1, 0)), (106, .goto (-96), 109, (10, 0, 0, 0, 0, 0)), (109, .goto (-107), 112, (2, 0, 0, 0, 0, 0)), (112, .return_, 113, (0, 0, 0, 0, 0, 0))]
theorem okX9_close : zv_ok 6 cX9_close RX9 zt vwCl tbX9_close = true := by decide +kernel
theorem dzX9_close_112 : decode cX9_close 112 = .ok (.return_, 1) := by decide +kernel
set_option maxRecDepth 100000 in
theorem inX9_close : Jvm.Cond.code yX9_close cX9_close 6 none ∈ zt := List.mem_filter.mpr ⟨List.mem_append_right _ (List.mem_of_getElem? (i := 633) rfl), rfl⟩
def tbX9_free : List zv_I := [(0, .aload_n 0, 1, (0, 0, 0, 0, 0, 0)), (1, .iload_n 1, 2, (0, 0, 0, 0, 0, 0)), (2, .invokevirtual 42, 5, (0, 0, 0, 0, 0, 0)), (5, .ifCond .ne 5, 8, (10, 0, 0, 0, 0, 0)), (8, .iconst (-1), 9, (0, 0, 0, 0, (-1), 0)), (9, .ireturn, 10, (0, 0, 0, 0, 0, 0)), (10, .aload_n 0, 11, (0, 0, 0, 0, 0, 0)), (11, .invokevirtual 50, 14, (0, 0, 0, 0, 0, 0)), (14, .istore_n 2, 15, (0, 0, 0, 0, 0, 0)), (15, .iconst 0, 16, (0, 0, 0, 0, 0, 0)), (16, .istore_n 3, 17, (0, 0, 0, 0, 0, 0)), (17, .iload_n 3, 18, (0, 0, 0, 0, 0, 0)), (18, .aload_n 0, 19, (0, 0, 0, 0, 0, 0)), (19, .getfield 7, 22, (0, 9, 0, 0, 0, 0)), (22, .if_icmp .ge 33, 25, (55, 0, 0, 0, 0, 0)), (25, .aload_n 0, 26, (0, 0, 0, 0, 0, 0)), (26, .getfield 13, 29, (0, 9, 1, 0, 0, 0)), (29, .bipush 16, 31, (0, 0, 0, 0, 16, 0)), (31, .iload_n 3, 32, (0, 0, 0, 0, 0, 0)), (32, .imul, 33, (0, 0, 0, 0, 0, 0)), (33, .iload_n 1, 34, (0, 0, 0, 0, 0, 0)), (34, .iadd, 35, (0, 0, 0, 0, 0, 0)), (35, .iconst 0, 36, (0, 0, 0, 0, 0, 0)), (36, .bastore, 37, (1, 3, 0, 3, 0, 0)), (37, .aload_n 0, 38, (0, 0, 0, 0, 0, 0)), (38, .getfield 13, 41, (0, 9, 1, 0, 0, 0)), (41, .bipush 16, 43, (0, 0, 0, 0, 16, 0)), (43, .iload_n 1, 44, (0, 0, 0, 0, 0, 0)), (44, .imul, 45, (0, 0, 0, 0, 0, 0)), (45, .iload_n 3, 46, (0, 0, 0, 0, 0, 0)), (46, .iadd, 47, (0, 0, 0, 0, 0, 0)), (47, .iconst 0, 48, (0, 0, 0, 0, 0, 0)), (48, .bastore, 49, (1, 3, 0, 3, 0, 0)), (49, .iinc 3 1, 52, (0, 0, 0, 0, 1, 0)), (52, .goto (-35), 55, (17, 0, 0, 0, 0, 0)), (55, .iload_n 2, 56, (0, 0, 0, 0, 0, 0)), (56, .aload_n 0, 57, (0, 0, 0, 0, 0, 0)), (57, .invokevirtual 50, 60, (0, 0, 0, 0, 0, 0)), (60, .isub, 61, (0, 0, 0, 0, 0, 0)), (61, .ireturn, 62, (0, 0, 0, 0, 0, 0))]
theorem okX9_free : zv_ok 4 cX9_free RX9 zt vwCl tbX9_free = true := by decide +kernel
theorem dzX9_free_2 : decode cX9_free 2 = .ok (.invokevirtual 42, 3) := by decide +kernel
theorem dzX9_free_9 : decode cX9_free 9 = .ok (.ireturn, 1) := by decide +kernel
theorem dzX9_free_11 : decode cX9_free 11 = .ok (.invokevirtual 50, 3) := by decide +kernel
theorem dzX9_free_57 : decode cX9_free 57 = .ok (.invokevirtual 50, 3) := by decide +kernel
theorem dzX9_free_61 : decode cX9_free 61 = .ok (.ireturn, 1) := by decide +kernel
set_option maxRecDepth 100000 in
theorem inX9_free : Jvm.Cond.code yX9_free cX9_free 4 ((some .int)) ∈ zt := List.mem_filter.mpr ⟨List.mem_append_right _ (List.mem_of_getElem? (i := 637) rfl), rfl⟩
def tbX9_isBelow : List zv_I := [(0, .aload_n 0, 1, (0, 0, 0, 0, 0, 0)), (1, .iload_n 1, 2, (0, 0, 0, 0, 0, 0)), (2, .invokevirtual 42, 5, (0, 0, 0, 0, 0, 0)), (5, .ifCond .eq 24, 8, (29, 0, 0, 0, 0, 0)), (8, .aload_n 0, 9, (0, 0, 0, 0, 0, 0)), (9, .iload_n 2, 10, (0, 0, 0, 0, 0, 0)), (10, .invokevirtual 42, 13, (0, 0, 0, 0, 0, 0)), (13, .ifCond .eq 16, 16, (29, 0, 0, 0, 0, 0)), (16, .aload_n 0, 17, (0, 0, 0, 0, 0, 0)), (17, .iload_n 1, 18, (0, 0, 0, 0, 0, 0)), (18, .iload_n 2, 19, (0, 0, 0, 0, 0, 0)), (19, .invokevirtual 46, 22, (0, 0, 0, 0, 0, 0)), (22, .ifCond .eq 7, 25, (29, 0, 0, 0, 0, 0)), (25, .iconst 1, 26, (0, 0, 0, 0, 1, 0)), (26, .goto 4, 29, (30, 0, 0, 0, 0, 0)), (29, .iconst 0, 30, (0, 0, 0, 0, 0, 0)), (30, .ireturn, 31, (0, 0, 0, 0, 0, 0))]
theorem okX9_isBelow : zv_ok 3 cX9_isBelow RX9 zt vwCl tbX9_isBelow = true := by decide +kernel
theorem dzX9_isBelow_2 : decode cX9_isBelow 2 = .ok (.invokevirtual 42, 3) := by decide +kernel
theorem dzX9_isBelow_10 : decode cX9_isBelow 10 = .ok (.invokevirtual 42, 3) := by decide +kernel
theorem dzX9_isBelow_19 : decode cX9_isBelow 19 = .ok (.invokevirtual 46, 3) := by decide +kernel
theorem dzX9_isBelow_30 : decode cX9_isBelow 30 = .ok (.ireturn, 1) := by decide +kernel
set_option maxRecDepth 100000 in
theorem inX9_isBelow : Jvm.Cond.code yX9_isBelow cX9_isBelow 3 ((some .boolean)) ∈ zt := List.mem_filter.mpr ⟨List.mem_append_right _ (List.mem_of_getElem? (i := 641) rfl), rfl⟩
def tbX9_covers : List zv_I := [(0, .aload_n 0, 1, (0, 0, 0, 0, 0, 0)), (1, .iload_n 1, 2, (0, 0, 0, 0, 0, 0)), (2, .invokevirtual 42, 5, (0, 0, 0, 0, 0, 0)), (5, .ifCond .ne 5, 8, (10, 0, 0, 0, 0, 0)), (8, .iconst (-1), 9, (0, 0, 0, 0, (-1), 0)), (9, .ireturn, 10, (0, 0, 0, 0, 0, 0)), (10, .iconst 0, 11, (0, 0, 0, 0, 0, 0)), (11, .istore_n 2, 12, (0, 0, 0, 0, 0, 0)), (12, .iconst 0, 13, (0, 0, 0, 0, 0, 0)), (13, .istore_n 3, 14, (0, 0, 0, 0, 0, 0)), (14, .iload_n 3, 15, (0, 0, 0, 0, 0, 0)), (15, .aload_n 0, 16, (0, 0, 0, 0, 0, 0)), (16, .getfield 7, 19, (0, 9, 0, 0, 0, 0)), (19, .if_icmp .ge 82, 22, (101, 0, 0, 0, 0, 0)), (22, .aload_n 0, 23, (0, 0, 0, 0, 0, 0)), (23, .iload_n 1, 24, (0, 0, 0, 0, 0, 0)), (24, .iload_n 3, 25, (0, 0, 0, 0, 0, 0)), (25, .invokevirtual 46, 28, (0, 0, 0, 0, 0, 0)), (28, .istore 4, 30, (0, 0, 0, 0, 0, 0)), (30, .iconst 0, 31, (0, 0, 0, 0, 0, 0)), (31, .istore 5, 33, (0, 0, 0, 0, 0, 0)), (33, .iload 5, 35, (0, 0, 0, 0, 0, 0)), (35, .aload_n 0, 36, (0, 0, 0, 0, 0, 0)), (36, .getfield 7, 39, (0, 9, 0, 0, 0, 0)), (39, .if_icmp .ge 41, 42, (80, 0, 0, 0, 0, 0)), (42, .iload 4, 44, (0, 0, 0, 0, 0, 0)), (44, .ifCond .eq 27, 47, (71, 0, 0, 0, 0, 0)), (47, .aload_n 0, 48, (0, 0, 0, 0, 0, 0)), (48, .iload_n 1, 49, (0, 0, 0, 0, 0, 0)), (49, .iload 5, 51, (0, 0, 0, 0, 0, 0)), (51, .invokevirtual 46, 54, (0, 0, 0, 0, 0, 0)), (54, .ifCond .eq 13, 57, (67, 0, 0, 0, 0, 0)), (57, .aload_n 0, 58, (0, 0, 0, 0, 0, 0)), (58, .iload 5, 60, (0, 0, 0, 0, 0, 0)), (60, .iload_n 3, 61, (0, 0, 0, 0, 0, 0)), (61, .invokevirtual 46, 64, (0, 0, 0, 0, 0, 0)), (64, .ifCond .ne 7, 67, (71, 0, 0, 0, 0, 0)), (67, .iconst 1, 68, (0, 0, 0, 0, 1, 0)), (68, .goto 4, 71, (72, 0, 0, 0, 0, 0)), (71, .iconst 0, 72, (0, 0, 0, 0, 0, 0)), (72, .istore 4, 74, (0, 0, 0, 0, 0, 0)), (74, .iinc 5 1, 77, (0, 0, 0, 0, 1, 0)), (77, .goto (-44), 80, (33, 0, 0, 0, 0, 0)), (80, .iload_n 2, 81, (0, 0, 0, 0, 0, 0)), (81, .iload 4, 83, (0, 0, 0, 0, 0, 0)), (83, .ifCond .eq 9, 86, (92, 0, 0, 0, 0, 0)), (86, .iconst 1, 87, (0, 0, 0, 0, 1, 0)), (87, .iload_n 3, 88, (0, 0, 0, 0, 0, 0)), (88, .ishl, 89, (0, 0, 0, 0, 0, 0)), (89, .goto 4, 92, (93, 0, 0, 0, 0, 0)), (92, .iconst 0, 93, (0, 0, 0, 0, 0, 0)), (93, .ior, 94, (0, 0, 0, 0, 0, 0)), (94, .istore_n 2, 95, (0, 0, 0, 0, 0, 0)), (95, .iinc 3 1, 98, (0, 0, 0, 0, 1, 0)), (98, .goto (-84), 101, (14, 0, 0, 0, 0, 0)), (101, .iload_n 2, 102, (0, 0, 0, 0, 0, 0)), (102, .ireturn, 103, (0, 0, 0, 0, 0, 0))]
theorem okX9_covers : zv_ok 6 cX9_covers RX9 zt vwCl tbX9_covers = true := by decide +kernel
theorem dzX9_covers_2 : decode cX9_covers 2 = .ok (.invokevirtual 42, 3) := by decide +kernel
theorem dzX9_covers_9 : decode cX9_covers 9 = .ok (.ireturn, 1) := by decide +kernel
theorem dzX9_covers_25 : decode cX9_covers 25 = .ok (.invokevirtual 46, 3) := by decide +kernel
theorem dzX9_covers_51 : decode cX9_covers 51 = .ok (.invokevirtual 46, 3) := by decide +kernel
theorem dzX9_covers_61 : decode cX9_covers 61 = .ok (.invokevirtual 46, 3) := by decide +kernel
theorem dzX9_covers_102 : decode cX9_covers 102 = .ok (.ireturn, 1) := by decide +kernel
set_option maxRecDepth 100000 in
theorem inX9_covers : Jvm.Cond.code yX9_covers cX9_covers 6 ((some .int)) ∈ zt := List.mem_filter.mpr ⟨List.mem_append_right _ (List.mem_of_getElem? (i := 645) rfl), rfl⟩
def tbX9_pairs : List zv_I := [(0, .iconst 0, 1, (0, 0, 0, 0, 0, 0)), (1, .istore_n 1, 2, (0, 0, 0, 0, 0, 0)), (2, .iconst 0, 3, (0, 0, 0, 0, 0, 0)), (3, .istore_n 2, 4, (0, 0, 0, 0, 0, 0)), (4, .iload_n 2, 5, (0, 0, 0, 0, 0, 0)), (5, .aload_n 0, 6, (0, 0, 0, 0, 0, 0)), (6, .getfield 7, 9, (0, 9, 0, 0, 0, 0)), (9, .if_icmp .ge 42, 12, (51, 0, 0, 0, 0, 0)), (12, .iconst 0, 13, (0, 0, 0, 0, 0, 0)), (13, .istore_n 3, 14, (0, 0, 0, 0, 0, 0)), (14, .iload_n 3, 15, (0, 0, 0, 0, 0, 0)), (15, .aload_n 0, 16, (0, 0, 0, 0, 0, 0)), (16, .getfield 7, 19, (0, 9, 0, 0, 0, 0)), (19, .if_icmp .ge 26, 22, (45, 0, 0, 0, 0, 0)), (22, .iload_n 1, 23, (0, 0, 0, 0, 0, 0)), (23, .aload_n 0, 24, (0, 0, 0, 0, 0, 0)), (24, .iload_n 2, 25, (0, 0, 0, 0, 0, 0)), (25, .iload_n 3, 26, (0, 0, 0, 0, 0, 0)), (26, .invokevirtual 46, 29, (0, 0, 0, 0, 0, 0)), (29, .ifCond .eq 7, 32, (36, 0, 0, 0, 0, 0)), (32, .iconst 1, 33, (0, 0, 0, 0, 1, 0)), (33, .goto 4, 36, (37, 0, 0, 0, 0, 0)), (36, .iconst 0, 37, (0, 0, 0, 0, 0, 0)), (37, .iadd, 38, (0, 0, 0, 0, 0, 0)), (38, .istore_n 1, 39, (0, 0, 0, 0, 0, 0)), (39, .iinc 3 1, 42, (0, 0, 0, 0, 1, 0)), (42, .goto (-28), 45, (14, 0, 0, 0, 0, 0)), (45, .iinc 2 1, 48, (0, 0, 0, 0, 1, 0)), (48, .goto (-44), 51, (4, 0, 0, 0, 0, 0)), (51, .iload_n 1, 52, (0, 0, 0, 0, 0, 0)), (52, .ireturn, 53, (0, 0, 0, 0, 0, 0))]
theorem okX9_pairs : zv_ok 4 cX9_pairs RX9 zt vwCl tbX9_pairs = true := by decide +kernel
theorem dzX9_pairs_26 : decode cX9_pairs 26 = .ok (.invokevirtual 46, 3) := by decide +kernel
theorem dzX9_pairs_52 : decode cX9_pairs 52 = .ok (.ireturn, 1) := by decide +kernel
set_option maxRecDepth 100000 in
theorem inX9_pairs : Jvm.Cond.code yX9_pairs cX9_pairs 4 ((some .int)) ∈ zt := List.mem_filter.mpr ⟨List.mem_append_right _ (List.mem_of_getElem? (i := 629) rfl), rfl⟩
def tbX9_isChain : List zv_I := [(0, .iconst 1, 1, (0, 0, 0, 0, 1, 0)), (1, .istore_n 2, 2, (0, 0, 0, 0, 0, 0)), (2, .iconst 0, 3, (0, 0, 0, 0, 0, 0)), (3, .istore_n 3, 4, (0, 0, 0, 0, 0, 0)), (4, .iload_n 3, 5, (0, 0, 0, 0, 0, 0)), (5, .aload_n 0, 6, (0, 0, 0, 0, 0, 0)), (6, .getfield 7, 9, (0, 9, 0, 0, 0, 0)), (9, .if_icmp .ge 71, 12, (80, 0, 0, 0, 0, 0)), (12, .iconst 0, 13, (0, 0, 0, 0, 0, 0)), (13, .istore 4, 15, (0, 0, 0, 0, 0, 0)), (15, .iload 4, 17, (0, 0, 0, 0, 0, 0)), (17, .iload_n 3, 18, (0, 0, 0, 0, 0, 0)), (18, .if_icmp .ge 56, 21, (74, 0, 0, 0, 0, 0)), (21, .iload_n 2, 22, (0, 0, 0, 0, 0, 0)), (22, .ifCond .eq 44, 25, (66, 0, 0, 0, 0, 0)), (25, .iload_n 1, 26, (0, 0, 0, 0, 0, 0)), (26, .iload_n 3, 27, (0, 0, 0, 0, 0, 0)), (27, .invokestatic 58, 30, (0, 0, 0, 0, 0, 0)), (30, .ifCond .eq 32, 33, (62, 0, 0, 0, 0, 0)), (33, .iload_n 1, 34, (0, 0, 0, 0, 0, 0)), (34, .iload 4, 36, (0, 0, 0, 0, 0, 0)), (36, .invokestatic 58, 39, (0, 0, 0, 0, 0, 0)), (39, .ifCond .eq 23, 42, (62, 0, 0, 0, 0, 0)), (42, .aload_n 0, 43, (0, 0, 0, 0, 0, 0)), (43, .iload_n 3, 44, (0, 0, 0, 0, 0, 0)), (44, .iload 4, 46, (0, 0, 0, 0, 0, 0)), (46, .invokevirtual 46, 49, (0, 0, 0, 0, 0, 0)), (49, .ifCond .ne 13, 52, (62, 0, 0, 0, 0, 0)), (52, .aload_n 0, 53, (0, 0, 0, 0, 0, 0)), (53, .iload 4, 55, (0, 0, 0, 0, 0, 0)), (55, .iload_n 3, 56, (0, 0, 0, 0, 0, 0)), (56, .invokevirtual 46, 59, (0, 0, 0, 0, 0, 0)), (59, .ifCond .eq 7, 62, (66, 0, 0, 0, 0, 0)), (62, .iconst 1, 63, (0, 0, 0, 0, 1, 0)), (63, .goto 4, 66, (67, 0, 0, 0, 0, 0)), (66, .iconst 0, 67, (0, 0, 0, 0, 0, 0)), (67, .istore_n 2, 68, (0, 0, 0, 0, 0, 0)), (68, .iinc 4 1, 71, (0, 0, 0, 0, 1, 0)), (71, .goto (-56), 74, (15, 0, 0, 0, 0, 0)), (74, .iinc 3 1, 77, (0, 0, 0, 0, 1, 0)), (77, .goto (-73), 80, (4, 0, 0, 0, 0, 0)), (80, .iload_n 2, 81, (0, 0, 0, 0, 0, 0)), (81, .ireturn, 82, (0, 0, 0, 0, 0, 0))]
theorem okX9_isChain : zv_ok 5 cX9_isChain RX9 zt vwCl tbX9_isChain = true := by decide +kernel
theorem dzX9_isChain_27 : decode cX9_isChain 27 = .ok (.invokestatic 58, 3) := by decide +kernel
theorem dzX9_isChain_36 : decode cX9_isChain 36 = .ok (.invokestatic 58, 3) := by decide +kernel
theorem dzX9_isChain_46 : decode cX9_isChain 46 = .ok (.invokevirtual 46, 3) := by decide +kernel
theorem dzX9_isChain_56 : decode cX9_isChain 56 = .ok (.invokevirtual 46, 3) := by decide +kernel
theorem dzX9_isChain_81 : decode cX9_isChain 81 = .ok (.ireturn, 1) := by decide +kernel
set_option maxRecDepth 100000 in
theorem inX9_isChain : Jvm.Cond.code yX9_isChain cX9_isChain 5 ((some .boolean)) ∈ zt := List.mem_filter.mpr ⟨List.mem_append_right _ (List.mem_of_getElem? (i := 675) rfl), rfl⟩
def tbX9_isApart : List zv_I := [(0, .iconst 1, 1, (0, 0, 0, 0, 1, 0)), (1, .istore_n 2, 2, (0, 0, 0, 0, 0, 0)), (2, .iconst 0, 3, (0, 0, 0, 0, 0, 0)), (3, .istore_n 3, 4, (0, 0, 0, 0, 0, 0)), (4, .iload_n 3, 5, (0, 0, 0, 0, 0, 0)), (5, .aload_n 0, 6, (0, 0, 0, 0, 0, 0)), (6, .getfield 7, 9, (0, 9, 0, 0, 0, 0)), (9, .if_icmp .ge 64, 12, (73, 0, 0, 0, 0, 0)), (12, .iconst 0, 13, (0, 0, 0, 0, 0, 0)), (13, .istore 4, 15, (0, 0, 0, 0, 0, 0)), (15, .iload 4, 17, (0, 0, 0, 0, 0, 0)), (17, .aload_n 0, 18, (0, 0, 0, 0, 0, 0)), (18, .getfield 7, 21, (0, 9, 0, 0, 0, 0)), (21, .if_icmp .ge 46, 24, (67, 0, 0, 0, 0, 0)), (24, .iload_n 2, 25, (0, 0, 0, 0, 0, 0)), (25, .ifCond .eq 34, 28, (59, 0, 0, 0, 0, 0)), (28, .iload_n 1, 29, (0, 0, 0, 0, 0, 0)), (29, .iload_n 3, 30, (0, 0, 0, 0, 0, 0)), (30, .invokestatic 58, 33, (0, 0, 0, 0, 0, 0)), (33, .ifCond .eq 22, 36, (55, 0, 0, 0, 0, 0)), (36, .iload_n 1, 37, (0, 0, 0, 0, 0, 0)), (37, .iload 4, 39, (0, 0, 0, 0, 0, 0)), (39, .invokestatic 58, 42, (0, 0, 0, 0, 0, 0)), (42, .ifCond .eq 13, 45, (55, 0, 0, 0, 0, 0)), (45, .aload_n 0, 46, (0, 0, 0, 0, 0, 0)), (46, .iload_n 3, 47, (0, 0, 0, 0, 0, 0)), (47, .iload 4, 49, (0, 0, 0, 0, 0, 0)), (49, .invokevirtual 46, 52, (0, 0, 0, 0, 0, 0)), (52, .ifCond .ne 7, 55, (59, 0, 0, 0, 0, 0)), (55, .iconst 1, 56, (0, 0, 0, 0, 1, 0)), (56, .goto 4, 59, (60, 0, 0, 0, 0, 0)), (59, .iconst 0, 60, (0, 0, 0, 0, 0, 0)), (60, .istore_n 2, 61, (0, 0, 0, 0, 0, 0)), (61, .iinc 4 1, 64, (0, 0, 0, 0, 1, 0)), (64, .goto (-49), 67, (15, 0, 0, 0, 0, 0)), (67, .iinc 3 1, 70, (0, 0, 0, 0, 1, 0)), (70, .goto (-66), 73, (4, 0, 0, 0, 0, 0)), (73, .iload_n 2, 74, (0, 0, 0, 0, 0, 0)), (74, .ireturn, 75, (0, 0, 0, 0, 0, 0))]
theorem okX9_isApart : zv_ok 5 cX9_isApart RX9 zt vwCl tbX9_isApart = true := by decide +kernel
theorem dzX9_isApart_30 : decode cX9_isApart 30 = .ok (.invokestatic 58, 3) := by decide +kernel
theorem dzX9_isApart_39 : decode cX9_isApart 39 = .ok (.invokestatic 58, 3) := by decide +kernel
theorem dzX9_isApart_49 : decode cX9_isApart 49 = .ok (.invokevirtual 46, 3) := by decide +kernel
theorem dzX9_isApart_74 : decode cX9_isApart 74 = .ok (.ireturn, 1) := by decide +kernel
set_option maxRecDepth 100000 in
theorem inX9_isApart : Jvm.Cond.code yX9_isApart cX9_isApart 5 ((some .boolean)) ∈ zt := List.mem_filter.mpr ⟨List.mem_append_right _ (List.mem_of_getElem? (i := 660) rfl), rfl⟩
def tbX9_isIdeal : List zv_I := [(0, .iconst 1, 1, (0, 0, 0, 0, 1, 0)), (1, .istore_n 2, 2, (0, 0, 0, 0, 0, 0)), (2, .iconst 0, 3, (0, 0, 0, 0, 0, 0)), (3, .istore_n 3, 4, (0, 0, 0, 0, 0, 0)), (4, .iload_n 3, 5, (0, 0, 0, 0, 0, 0)), (5, .aload_n 0, 6, (0, 0, 0, 0, 0, 0)), (6, .getfield 7, 9, (0, 9, 0, 0, 0, 0)), (9, .if_icmp .ge 64, 12, (73, 0, 0, 0, 0, 0)), (12, .iconst 0, 13, (0, 0, 0, 0, 0, 0)), (13, .istore 4, 15, (0, 0, 0, 0, 0, 0)), (15, .iload 4, 17, (0, 0, 0, 0, 0, 0)), (17, .aload_n 0, 18, (0, 0, 0, 0, 0, 0)), (18, .getfield 7, 21, (0, 9, 0, 0, 0, 0)), (21, .if_icmp .ge 46, 24, (67, 0, 0, 0, 0, 0)), (24, .iload_n 2, 25, (0, 0, 0, 0, 0, 0)), (25, .ifCond .eq 34, 28, (59, 0, 0, 0, 0, 0)), (28, .iload_n 1, 29, (0, 0, 0, 0, 0, 0)), (29, .iload 4, 31, (0, 0, 0, 0, 0, 0)), (31, .invokestatic 58, 34, (0, 0, 0, 0, 0, 0)), (34, .ifCond .eq 21, 37, (55, 0, 0, 0, 0, 0)), (37, .aload_n 0, 38, (0, 0, 0, 0, 0, 0)), (38, .iload_n 3, 39, (0, 0, 0, 0, 0, 0)), (39, .iload 4, 41, (0, 0, 0, 0, 0, 0)), (41, .invokevirtual 46, 44, (0, 0, 0, 0, 0, 0)), (44, .ifCond .eq 11, 47, (55, 0, 0, 0, 0, 0)), (47, .iload_n 1, 48, (0, 0, 0, 0, 0, 0)), (48, .iload_n 3, 49, (0, 0, 0, 0, 0, 0)), (49, .invokestatic 58, 52, (0, 0, 0, 0, 0, 0)), (52, .ifCond .eq 7, 55, (59, 0, 0, 0, 0, 0)), (55, .iconst 1, 56, (0, 0, 0, 0, 1, 0)), (56, .goto 4, 59, (60, 0, 0, 0, 0, 0)), (59, .iconst 0, 60, (0, 0, 0, 0, 0, 0)), (60, .istore_n 2, 61, (0, 0, 0, 0, 0, 0)), (61, .iinc 4 1, 64, (0, 0, 0, 0, 1, 0)), (64, .goto (-49), 67, (15, 0, 0, 0, 0, 0)), (67, .iinc 3 1, 70, (0, 0, 0, 0, 1, 0)), (70, .goto (-66), 73, (4, 0, 0, 0, 0, 0)), (73, .iload_n 2, 74, (0, 0, 0, 0, 0, 0)), (74, .ireturn, 75, (0, 0, 0, 0, 0, 0))]
theorem okX9_isIdeal : zv_ok 5 cX9_isIdeal RX9 zt vwCl tbX9_isIdeal = true := by decide +kernel
theorem dzX9_isIdeal_31 : decode cX9_isIdeal 31 = .ok (.invokestatic 58, 3) := by decide +kernel
theorem dzX9_isIdeal_41 : decode cX9_isIdeal 41 = .ok (.invokevirtual 46, 3) := by decide +kernel
theorem dzX9_isIdeal_49 : decode cX9_isIdeal 49 = .ok (.invokestatic 58, 3) := by decide +kernel
theorem dzX9_isIdeal_74 : decode cX9_isIdeal 74 = .ok (.ireturn, 1) := by decide +kernel
set_option maxRecDepth 100000 in
theorem inX9_isIdeal : Jvm.Cond.code yX9_isIdeal cX9_isIdeal 5 ((some .boolean)) ∈ zt := List.mem_filter.mpr ⟨List.mem_append_right _ (List.mem_of_getElem? (i := 684) rfl), rfl⟩
def tbX9_write : List zv_I := [(0, .iconst 0, 1, (0, 0, 0, 0, 0, 0)), (1, .istore_n 3, 2, (0, 0, 0, 0, 0, 0)), (2, .iconst 0, 3, (0, 0, 0, 0, 0, 0)), (3, .istore 4, 5, (0, 0, 0, 0, 0, 0)), (5, .iload 4, 7, (0, 0, 0, 0, 0, 0)), (7, .aload_n 0, 8, (0, 0, 0, 0, 0, 0)), (8, .getfield 7, 11, (0, 9, 0, 0, 0, 0)), (11, .if_icmp .ge 102, 14, (113, 0, 0, 0, 0, 0)), (14, .iconst 0, 15, (0, 0, 0, 0, 0, 0)), (15, .istore 5, 17, (0, 0, 0, 0, 0, 0)), (17, .iload 5, 19, (0, 0, 0, 0, 0, 0)), (19, .aload_n 0, 20, (0, 0, 0, 0, 0, 0)), (20, .getfield 7, 23, (0, 9, 0, 0, 0, 0)), (23, .if_icmp .ge 84, 26, (107, 0, 0, 0, 0, 0)), (26, .iconst 0, 27, (0, 0, 0, 0, 0, 0)), (27, .istore 6, 29, (0, 0, 0, 0, 0, 0)), (29, .iconst 0, 30, (0, 0, 0, 0, 0, 0)), (30, .istore 7, 32, (0, 0, 0, 0, 0, 0)), (32, .iload 7, 34, (0, 0, 0, 0, 0, 0)), (34, .aload_n 0, 35, (0, 0, 0, 0, 0, 0)), (35, .getfield 7, 38, (0, 9, 0, 0, 0, 0)), (38, .if_icmp .ge 39, 41, (77, 0, 0, 0, 0, 0)), (41, .iload 6, 43, (0, 0, 0, 0, 0, 0)), (43, .iload_n 1, 44, (0, 0, 0, 0, 0, 0)), (44, .iload 7, 46, (0, 0, 0, 0, 0, 0)), (46, .invokestatic 58, 49, (0, 0, 0, 0, 0, 0)), (49, .ifCond .eq 18, 52, (67, 0, 0, 0, 0, 0)), (52, .aload_n 0, 53, (0, 0, 0, 0, 0, 0)), (53, .iload 7, 55, (0, 0, 0, 0, 0, 0)), (55, .iload 5, 57, (0, 0, 0, 0, 0, 0)), (57, .invokevirtual 46, 60, (0, 0, 0, 0, 0, 0)), (60, .ifCond .eq 7, 63, (67, 0, 0, 0, 0, 0)), (63, .iconst 1, 64, (0, 0, 0, 0, 1, 0)), (64, .goto 4, 67, (68, 0, 0, 0, 0, 0)), (67, .iconst 0, 68, (0, 0, 0, 0, 0, 0)), (68, .iadd, 69, (0, 0, 0, 0, 0, 0)), (69, .istore 6, 71, (0, 0, 0, 0, 0, 0)), (71, .iinc 7 1, 74, (0, 0, 0, 0, 1, 0)), (74, .goto (-42), 77, (32, 0, 0, 0, 0, 0)), (77, .iload_n 1, 78, (0, 0, 0, 0, 0, 0)), (78, .iload 5, 80, (0, 0, 0, 0, 0, 0)), (80, .invokestatic 58, 83, (0, 0, 0, 0, 0, 0)), (83, .ifCond .eq 18, 86, (101, 0, 0, 0, 0, 0)), (86, .iload 6, 88, (0, 0, 0, 0, 0, 0)), (88, .iload 4, 90, (0, 0, 0, 0, 0, 0)), (90, .if_icmp .ne 11, 93, (101, 0, 0, 0, 0, 0)), (93, .aload_n 2, 94, (0, 0, 0, 0, 0, 0)), (94, .iload_n 3, 95, (0, 0, 0, 0, 0, 0)), (95, .iload 5, 97, (0, 0, 0, 0, 0, 0)), (97, .iastore, 98, (2, 0, 0, 0, 0, 0)), (98, .iinc 3 1, 101, (0, 0, 0, 0, 1, 0)), (101, .iinc 5 1, 104, (0, 0, 0, 0, 1, 0)), (104, .goto (-87), 107, (17, 0, 0, 0, 0, 0)), (107, .iinc 4 1, 110, (0, 0, 0, 0, 1, 0)), (110, .goto (-105), 113, (5, 0, 0, 0, 0, 0)), (113, .iload_n 3, 114, (0, 0, 0, 0, 0, 0)), (114, .ireturn, 115, (0, 0, 0, 0, 0, 0))]
theorem okX9_write : zv_ok 8 cX9_write RX9 zt vwCl tbX9_write = true := by decide +kernel
theorem dzX9_write_46 : decode cX9_write 46 = .ok (.invokestatic 58, 3) := by decide +kernel
theorem dzX9_write_57 : decode cX9_write 57 = .ok (.invokevirtual 46, 3) := by decide +kernel
theorem dzX9_write_80 : decode cX9_write 80 = .ok (.invokestatic 58, 3) := by decide +kernel
theorem dzX9_write_114 : decode cX9_write 114 = .ok (.ireturn, 1) := by decide +kernel
set_option maxRecDepth 100000 in
theorem inX9_write : Jvm.Cond.code yX9_write cX9_write 8 ((some .int)) ∈ zt := List.mem_filter.mpr ⟨List.mem_append_right _ (List.mem_of_getElem? (i := 679) rfl), rfl⟩
def tbX9_findChain : List zv_I := [(0, .iconst 0, 1, (0, 0, 0, 0, 0, 0)), (1, .istore_n 1, 2, (0, 0, 0, 0, 0, 0)), (2, .iconst 1, 3, (0, 0, 0, 0, 1, 0)), (3, .istore_n 2, 4, (0, 0, 0, 0, 0, 0)), (4, .iload_n 2, 5, (0, 0, 0, 0, 0, 0)), (5, .aload_n 0, 6, (0, 0, 0, 0, 0, 0)), (6, .invokevirtual 61, 9, (0, 0, 0, 0, 0, 0)), (9, .if_icmp .gt 143, 12, (152, 0, 0, 0, 0, 0)), (12, .iload_n 2, 13, (0, 0, 0, 0, 0, 0)), (13, .invokestatic 64, 16, (0, 0, 0, 0, 0, 0)), (16, .iload_n 1, 17, (0, 0, 0, 0, 0, 0)), (17, .if_icmp .lt 129, 20, (146, 0, 0, 0, 0, 0)), (20, .aload_n 0, 21, (0, 0, 0, 0, 0, 0)), (21, .iload_n 2, 22, (0, 0, 0, 0, 0, 0)), (22, .invokevirtual 68, 25, (0, 0, 0, 0, 0, 0)), (25, .ifCond .eq 121, 28, (146, 0, 0, 0, 0, 0)), (28, .aload_n 0, 29, (0, 0, 0, 0, 0, 0)), (29, .iload_n 2, 30, (0, 0, 0, 0, 0, 0)), (30, .aload_n 0, 31, (0, 0, 0, 0, 0, 0)), (31, .getfield 36, 34, (0, 9, 8, 0, 0, 0)), (34, .invokevirtual 71, 37, (0, 0, 0, 0, 0, 0)), (37, .istore_n 3, 38, (0, 0, 0, 0, 0, 0)), (38, .iload_n 3, 39, (0, 0, 0, 0, 0, 0)), (39, .iload_n 1, 40, (0, 0, 0, 0, 0, 0)), (40, .if_icmp .le 7, 43, (47, 0, 0, 0, 0, 0)), (43, .iconst 1, 44, (0, 0, 0, 0, 1, 0)), (44, .goto 4, 47, (48, 0, 0, 0, 0, 0)), (47, .iconst 0, 48, (0, 0, 0, 0, 0, 0)), (48, .istore 4, 50, (0, 0, 0, 0, 0, 0)), (50, .iconst 0, 51, (0, 0, 0, 0, 0, 0)), (51, .istore 5, 53, (0, 0, 0, 0, 0, 0)), (53, .iload 4, 55, (0, 0, 0, 0, 0, 0)), (55, .ifCond .ne 32, 58, (87, 0, 0, 0, 0, 0)), (58, .iload 5, 60, (0, 0, 0, 0, 0, 0)), (60, .iload_n 3, 61, (0, 0, 0, 0, 0, 0)), (61, .if_icmp .ge 26, 64, (87, 0, 0, 0, 0, 0)), (64, .aload_n 0, 65, (0, 0, 0, 0, 0, 0)), (65, .getfield 36, 68, (0, 9, 8, 0, 0, 0)), (68, .iload 5, 70, (0, 0, 0, 0, 0, 0)), (70, .iaload, 71, (2, 0, 0, 0, 0, 0)), (71, .aload_n 0, 72, (0, 0, 0, 0, 0, 0)), (72, .getfield 39, 75, (0, 9, 9, 0, 0, 0)), (75, .iload 5, 77, (0, 0, 0, 0, 0, 0)), (77, .iaload, 78, (3, 0, 0, 0, 0, 0)), (78, .if_icmp .ne 9, 81, (87, 0, 0, 0, 0, 0)), (81, .iinc 5 1, 84, (0, 0, 0, 0, 1, 0)), (84, .goto (-31), 87, (53, 0, 0, 0, 0, 0)), (87, .iload 4, 89, (0, 0, 0, 0, 0, 0)), (89, .ifCond .ne 26, 92, (115, 0, 0, 0, 0, 0)), (92, .iload 5, 94, (0, 0, 0, 0, 0, 0)), (94, .iload_n 3, 95, (0, 0, 0, 0, 0, 0)), (95, .if_icmp .ge 51, 98, (146, 0, 0, 0, 0, 0)), (98, .aload_n 0, 99, (0, 0, 0, 0, 0, 0)), (99, .getfield 36, 102, (0, 9, 8, 0, 0, 0)), (102, .iload 5, 104, (0, 0, 0, 0, 0, 0)), (104, .iaload, 105, (2, 0, 0, 0, 0, 0)), (105, .aload_n 0, 106, (0, 0, 0, 0, 0, 0)), (106, .getfield 39, 109, (0, 9, 9, 0, 0, 0)), (109, .iload 5, 111, (0, 0, 0, 0, 0, 0)), (111, .iaload, 112, (3, 0, 0, 0, 0, 0)), (112, .if_icmp .ge 34, 115, (146, 0, 0, 0, 0, 0)), (115, .iconst 0, 116, (0, 0, 0, 0, 0, 0)), (116, .istore 6, 118, (0, 0, 0, 0, 0, 0)), (118, .iload 6, 120, (0, 0, 0, 0, 0, 0)), (120, .iload_n 3, 121, (0, 0, 0, 0, 0, 0)), (121, .if_icmp .ge 23, 124, (144, 0, 0, 0, 0, 0)), (124, .aload_n 0, 125, (0, 0, 0, 0, 0, 0)), (125, .getfield 39, 128, (0, 9, 9, 0, 0, 0)), (128, .iload 6, 130, (0, 0, 0, 0, 0, 0)), (130, .aload_n 0, 131, (0, 0, 0, 0, 0, 0)), (131, .getfield 36, 134, (0, 9, 8, 0, 0, 0)), (134, .iload 6, 136, (0, 0, 0, 0, 0, 0)), (136, .iaload, 137, (2, 0, 0, 0, 0, 0)), (137, .iastore, 138, (3, 0, 0, 0, 0, 0)), (138, .iinc 6 1, 141, (0, 0, 0, 0, 1, 0)), (141, .goto (-23), 144, (118, 0, 0, 0, 0, 0)), (144, .iload_n 3, 145, (0, 0, 0, 0, 0, 0)), (145, .istore_n 1, 146, (0, 0, 0, 0, 0, 0)), (146, .iinc 2 1, 149, (0, 0, 0, 0, 1, 0)), (149, .goto (-145), 152, (4, 0, 0, 0, 0, 0)), (152, .iload_n 1, 153, (0, 0, 0, 0, 0, 0)), (153, .ireturn, 154, (0, 0, 0, 0, 0, 0))]
theorem okX9_findChain : zv_ok 7 cX9_findChain RX9 zt vwCl tbX9_findChain = true := by decide +kernel
theorem dzX9_findChain_6 : decode cX9_findChain 6 = .ok (.invokevirtual 61, 3) := by decide +kernel
theorem dzX9_findChain_13 : decode cX9_findChain 13 = .ok (.invokestatic 64, 3) := by decide +kernel
theorem dzX9_findChain_22 : decode cX9_findChain 22 = .ok (.invokevirtual 68, 3) := by decide +kernel
theorem dzX9_findChain_34 : decode cX9_findChain 34 = .ok (.invokevirtual 71, 3) := by decide +kernel
theorem dzX9_findChain_153 : decode cX9_findChain 153 = .ok (.ireturn, 1) := by decide +kernel
set_option maxRecDepth 100000 in
theorem inX9_findChain : Jvm.Cond.code yX9_findChain cX9_findChain 7 ((some .int)) ∈ zt := List.mem_filter.mpr ⟨List.mem_append_right _ (List.mem_of_getElem? (i := 671) rfl), rfl⟩
def tbX9_apart : List zv_I := [(0, .iconst 0, 1, (0, 0, 0, 0, 0, 0)), (1, .istore_n 1, 2, (0, 0, 0, 0, 0, 0)), (2, .iconst 1, 3, (0, 0, 0, 0, 1, 0)), (3, .istore_n 2, 4, (0, 0, 0, 0, 0, 0)), (4, .iload_n 2, 5, (0, 0, 0, 0, 0, 0)), (5, .aload_n 0, 6, (0, 0, 0, 0, 0, 0)), (6, .invokevirtual 61, 9, (0, 0, 0, 0, 0, 0)), (9, .if_icmp .gt 34, 12, (43, 0, 0, 0, 0, 0)), (12, .iload_n 2, 13, (0, 0, 0, 0, 0, 0)), (13, .invokestatic 64, 16, (0, 0, 0, 0, 0, 0)), (16, .iload_n 1, 17, (0, 0, 0, 0, 0, 0)), (17, .invokestatic 64, 20, (0, 0, 0, 0, 0, 0)), (20, .if_icmp .le 15, 23, (35, 0, 0, 0, 0, 0)), (23, .aload_n 0, 24, (0, 0, 0, 0, 0, 0)), (24, .iload_n 2, 25, (0, 0, 0, 0, 0, 0)), (25, .invokevirtual 75, 28, (0, 0, 0, 0, 0, 0)), (28, .ifCond .eq 7, 31, (35, 0, 0, 0, 0, 0)), (31, .iload_n 2, 32, (0, 0, 0, 0, 0, 0)), (32, .goto 4, 35, (36, 0, 0, 0, 0, 0)), (35, .iload_n 1, 36, (0, 0, 0, 0, 0, 0)), (36, .istore_n 1, 37, (0, 0, 0, 0, 0, 0)), (37, .iinc 2 1, 40, (0, 0, 0, 0, 1, 0)), (40, .goto (-36), 43, (4, 0, 0, 0, 0, 0)), (43, .iload_n 1, 44, (0, 0, 0, 0, 0, 0)), (44, .ireturn, 45, (0, 0, 0, 0, 0, 0))]
theorem okX9_apart : zv_ok 3 cX9_apart RX9 zt vwCl tbX9_apart = true := by decide +kernel
theorem dzX9_apart_6 : decode cX9_apart 6 = .ok (.invokevirtual 61, 3) := by decide +kernel
theorem dzX9_apart_13 : decode cX9_apart 13 = .ok (.invokestatic 64, 3) := by decide +kernel
theorem dzX9_apart_17 : decode cX9_apart 17 = .ok (.invokestatic 64, 3) := by decide +kernel
theorem dzX9_apart_25 : decode cX9_apart 25 = .ok (.invokevirtual 75, 3) := by decide +kernel
theorem dzX9_apart_44 : decode cX9_apart 44 = .ok (.ireturn, 1) := by decide +kernel
set_option maxRecDepth 100000 in
theorem inX9_apart : Jvm.Cond.code yX9_apart cX9_apart 3 ((some .int)) ∈ zt := List.mem_filter.mpr ⟨List.mem_append_right _ (List.mem_of_getElem? (i := 649) rfl), rfl⟩
def tbX9_count : List zv_I := [(0, .iconst 0, 1, (0, 0, 0, 0, 0, 0)), (1, .istore_n 2, 2, (0, 0, 0, 0, 0, 0)), (2, .iload_n 1, 3, (0, 0, 0, 0, 0, 0)), (3, .tableswitch 103 0 5 #[37, 42, 47, 52, 60, 94], 40, (0, 0, 0, 0, 0, 0)), (40, .aload_n 0, 41, (0, 0, 0, 0, 0, 0)), (41, .getfield 7, 44, (0, 9, 0, 0, 0, 0)), (44, .ireturn, 45, (0, 0, 0, 0, 0, 0)), (45, .aload_n 0, 46, (0, 0, 0, 0, 0, 0)), (46, .invokevirtual 50, 49, (0, 0, 0, 0, 0, 0)), (49, .ireturn, 50, (0, 0, 0, 0, 0, 0)), (50, .aload_n 0, 51, (0, 0, 0, 0, 0, 0)), (51, .invokevirtual 78, 54, (0, 0, 0, 0, 0, 0)), (54, .ireturn, 55, (0, 0, 0, 0, 0, 0)), (55, .aload_n 0, 56, (0, 0, 0, 0, 0, 0)), (56, .invokevirtual 81, 59, (0, 0, 0, 0, 0, 0)), (59, .invokestatic 64, 62, (0, 0, 0, 0, 0, 0)), (62, .ireturn, 63, (0, 0, 0, 0, 0, 0)), (63, .iconst 0, 64, (0, 0, 0, 0, 0, 0)), (64, .istore_n 3, 65, (0, 0, 0, 0, 0, 0)), (65, .iload_n 3, 66, (0, 0, 0, 0, 0, 0)), (66, .aload_n 0, 67, (0, 0, 0, 0, 0, 0)), (67, .invokevirtual 61, 70, (0, 0, 0, 0, 0, 0)), (70, .if_icmp .gt 25, 73, (95, 0, 0, 0, 0, 0)), (73, .iload_n 2, 74, (0, 0, 0, 0, 0, 0)), (74, .aload_n 0, 75, (0, 0, 0, 0, 0, 0)), (75, .iload_n 3, 76, (0, 0, 0, 0, 0, 0)), (76, .invokevirtual 84, 79, (0, 0, 0, 0, 0, 0)), (79, .ifCond .eq 7, 82, (86, 0, 0, 0, 0, 0)), (82, .iconst 1, 83, (0, 0, 0, 0, 1, 0)), (83, .goto 4, 86, (87, 0, 0, 0, 0, 0)), (86, .iconst 0, 87, (0, 0, 0, 0, 0, 0)), (87, .iadd, 88, (0, 0, 0, 0, 0, 0)), (88, .istore_n 2, 89, (0, 0, 0, 0, 0, 0)), (89, .iinc 3 1, 92, (0, 0, 0, 0, 1, 0)), (92, .goto (-27), 95, (65, 0, 0, 0, 0, 0)), (95, .iload_n 2, 96, (0, 0, 0, 0, 0, 0)), (96, .ireturn, 97, (0, 0, 0, 0, 0, 0)), (97, .aload_n 0, 98, (0, 0, 0, 0, 0, 0)), (98, .invokevirtual 87, 101, (0, 0, 0, 0, 0, 0)), (101, .aload_n 0, 102, (0, 0, 0, 0, 0, 0)), (102, .getfield 90, 105, (0, 9, 5, 0, 0, 0)), (105, .ireturn, 106, (0, 0, 0, 0, 0, 0)), (106, .iconst (-1), 107, (0, 0, 0, 0, (-1), 0)), (107, .ireturn, 108, (0, 0, 0, 0, 0, 0))]
theorem okX9_count : zv_ok 4 cX9_count RX9 zt vwCl tbX9_count = true := by decide +kernel
theorem dzX9_count_3 : decode cX9_count 3 = .ok (.tableswitch 103 0 5 #[37, 42, 47, 52, 60, 94], 37) := by decide +kernel
theorem dzX9_count_44 : decode cX9_count 44 = .ok (.ireturn, 1) := by decide +kernel
theorem dzX9_count_46 : decode cX9_count 46 = .ok (.invokevirtual 50, 3) := by decide +kernel
theorem dzX9_count_49 : decode cX9_count 49 = .ok (.ireturn, 1) := by decide +kernel
theorem dzX9_count_51 : decode cX9_count 51 = .ok (.invokevirtual 78, 3) := by decide +kernel
theorem dzX9_count_54 : decode cX9_count 54 = .ok (.ireturn, 1) := by decide +kernel
theorem dzX9_count_56 : decode cX9_count 56 = .ok (.invokevirtual 81, 3) := by decide +kernel
theorem dzX9_count_59 : decode cX9_count 59 = .ok (.invokestatic 64, 3) := by decide +kernel
theorem dzX9_count_62 : decode cX9_count 62 = .ok (.ireturn, 1) := by decide +kernel
theorem dzX9_count_67 : decode cX9_count 67 = .ok (.invokevirtual 61, 3) := by decide +kernel
theorem dzX9_count_76 : decode cX9_count 76 = .ok (.invokevirtual 84, 3) := by decide +kernel
theorem dzX9_count_96 : decode cX9_count 96 = .ok (.ireturn, 1) := by decide +kernel
theorem dzX9_count_98 : decode cX9_count 98 = .ok (.invokevirtual 87, 3) := by decide +kernel
theorem dzX9_count_105 : decode cX9_count 105 = .ok (.ireturn, 1) := by decide +kernel
theorem dzX9_count_107 : decode cX9_count 107 = .ok (.ireturn, 1) := by decide +kernel
set_option maxRecDepth 100000 in
theorem inX9_count : Jvm.Cond.code yX9_count cX9_count 4 ((some .int)) ∈ zt := List.mem_filter.mpr ⟨List.mem_append_right _ (List.mem_of_getElem? (i := 667) rfl), rfl⟩
def tbX9_chain : List zv_I := [(0, .aload_n 0, 1, (0, 0, 0, 0, 0, 0)), (1, .invokevirtual 78, 4, (0, 0, 0, 0, 0, 0)), (4, .istore_n 2, 5, (0, 0, 0, 0, 0, 0)), (5, .iload_n 1, 6, (0, 0, 0, 0, 0, 0)), (6, .ifCond .lt 8, 9, (14, 0, 0, 0, 0, 0)), (9, .iload_n 1, 10, (0, 0, 0, 0, 0, 0)), (10, .iload_n 2, 11, (0, 0, 0, 0, 0, 0)), (11, .if_icmp .lt 7, 14, (18, 0, 0, 0, 0, 0)), (14, .iconst (-1), 15, (0, 0, 0, 0, (-1), 0)), (15, .goto 9, 18, (24, 0, 0, 0, 0, 0)), (18, .aload_n 0, 19, (0, 0, 0, 0, 0, 0)), (19, .getfield 39, 22, (0, 9, 9, 0, 0, 0)), (22, .iload_n 1, 23, (0, 0, 0, 0, 0, 0)), (23, .iaload, 24, (3, 0, 0, 0, 0, 0)), (24, .ireturn, 25, (0, 0, 0, 0, 0, 0))]
theorem okX9_chain : zv_ok 3 cX9_chain RX9 zt vwCl tbX9_chain = true := by decide +kernel
theorem dzX9_chain_1 : decode cX9_chain 1 = .ok (.invokevirtual 78, 3) := by decide +kernel
theorem dzX9_chain_24 : decode cX9_chain 24 = .ok (.ireturn, 1) := by decide +kernel
set_option maxRecDepth 100000 in
theorem inX9_chain : Jvm.Cond.code yX9_chain cX9_chain 3 ((some .int)) ∈ zt := List.mem_filter.mpr ⟨List.mem_append_right _ (List.mem_of_getElem? (i := 700) rfl), rfl⟩
def tbX9_findGets : List zv_I := [(0, .iconst 0, 1, (0, 0, 0, 0, 0, 0)), (1, .istore_n 1, 2, (0, 0, 0, 0, 0, 0)), (2, .iload_n 1, 3, (0, 0, 0, 0, 0, 0)), (3, .sipush 16384, 6, (0, 0, 0, 0, 16384, 0)), (6, .if_icmp .ge 25, 9, (31, 0, 0, 0, 0, 0)), (9, .aload_n 0, 10, (0, 0, 0, 0, 0, 0)), (10, .getfield 32, 13, (0, 9, 7, 0, 0, 0)), (13, .sipush 16384, 16, (0, 0, 0, 0, 16384, 0)), (16, .aload_n 0, 17, (0, 0, 0, 0, 0, 0)), (17, .getfield 7, 20, (0, 9, 0, 0, 0, 0)), (20, .imul, 21, (0, 0, 0, 0, 0, 0)), (21, .iload_n 1, 22, (0, 0, 0, 0, 0, 0)), (22, .iadd, 23, (0, 0, 0, 0, 0, 0)), (23, .iconst 0, 24, (0, 0, 0, 0, 0, 0)), (24, .bastore, 25, (2, 2, 0, 2, 0, 0)), (25, .iinc 1 1, 28, (0, 0, 0, 0, 1, 0)), (28, .goto (-26), 31, (2, 0, 0, 0, 0, 0)), (31, .aload_n 0, 32, (0, 0, 0, 0, 0, 0)), (32, .getfield 7, 35, (0, 9, 0, 0, 0, 0)), (35, .iconst 1, 36, (0, 0, 0, 0, 1, 0)), (36, .isub, 37, (0, 0, 0, 0, 0, 0)), (37, .istore_n 1, 38, (0, 0, 0, 0, 0, 0)), (38, .iload_n 1, 39, (0, 0, 0, 0, 0, 0)), (39, .ifCond .lt 131, 42, (170, 0, 0, 0, 0, 0)), (42, .iconst 0, 43, (0, 0, 0, 0, 0, 0)), (43, .istore_n 2, 44, (0, 0, 0, 0, 0, 0)), (44, .iload_n 2, 45, (0, 0, 0, 0, 0, 0)), (45, .aload_n 0, 46, (0, 0, 0, 0, 0, 0)), (46, .invokevirtual 61, 49, (0, 0, 0, 0, 0, 0)), (49, .if_icmp .gt 115, 52, (164, 0, 0, 0, 0, 0)), (52, .aload_n 0, 53, (0, 0, 0, 0, 0, 0)), (53, .getfield 32, 56, (0, 9, 7, 0, 0, 0)), (56, .sipush 16384, 59, (0, 0, 0, 0, 16384, 0)), (59, .iload_n 1, 60, (0, 0, 0, 0, 0, 0)), (60, .iconst 1, 61, (0, 0, 0, 0, 1, 0)), (61, .iadd, 62, (0, 0, 0, 0, 0, 0)), (62, .imul, 63, (0, 0, 0, 0, 0, 0)), (63, .iload_n 2, 64, (0, 0, 0, 0, 0, 0)), (64, .iadd, 65, (0, 0, 0, 0, 0, 0)), (65, .baload, 66, (2, 2, 0, 2, 0, 0)), (66, .istore_n 3, 67, (0, 0, 0, 0, 0, 0)), (67, .iconst 0, 68, (0, 0, 0, 0, 0, 0)), (68, .istore 4, 70, (0, 0, 0, 0, 0, 0)), (70, .iload 4, 72, (0, 0, 0, 0, 0, 0)), (72, .aload_n 0, 73, (0, 0, 0, 0, 0, 0)), (73, .getfield 7, 76, (0, 9, 0, 0, 0, 0)), (76, .if_icmp .ge 68, 79, (144, 0, 0, 0, 0, 0)), (79, .aload_n 0, 80, (0, 0, 0, 0, 0, 0)), (80, .iload_n 1, 81, (0, 0, 0, 0, 0, 0)), (81, .iload 4, 83, (0, 0, 0, 0, 0, 0)), (83, .invokevirtual 46, 86, (0, 0, 0, 0, 0, 0)), (86, .ifCond .eq 36, 89, (122, 0, 0, 0, 0, 0)), (89, .iload_n 2, 90, (0, 0, 0, 0, 0, 0)), (90, .iload 4, 92, (0, 0, 0, 0, 0, 0)), (92, .invokestatic 58, 95, (0, 0, 0, 0, 0, 0)), (95, .ifCond .ne 27, 98, (122, 0, 0, 0, 0, 0)), (98, .iconst 1, 99, (0, 0, 0, 0, 1, 0)), (99, .aload_n 0, 100, (0, 0, 0, 0, 0, 0)), (100, .getfield 32, 103, (0, 9, 7, 0, 0, 0)), (103, .sipush 16384, 106, (0, 0, 0, 0, 16384, 0)), (106, .iload_n 1, 107, (0, 0, 0, 0, 0, 0)), (107, .iconst 1, 108, (0, 0, 0, 0, 1, 0)), (108, .iadd, 109, (0, 0, 0, 0, 0, 0)), (109, .imul, 110, (0, 0, 0, 0, 0, 0)), (110, .iload_n 2, 111, (0, 0, 0, 0, 0, 0)), (111, .iconst 1, 112, (0, 0, 0, 0, 1, 0)), (112, .iload 4, 114, (0, 0, 0, 0, 0, 0)), (114, .ishl, 115, (0, 0, 0, 0, 0, 0)), (115, .ior, 116, (0, 0, 0, 0, 0, 0)), (116, .iadd, 117, (0, 0, 0, 0, 0, 0)), (117, .baload, 118, (2, 2, 0, 2, 0, 0)), (118, .iadd, 119, (0, 0, 0, 0, 0, 0)), (119, .goto 4, 122, (123, 0, 0, 0, 0, 0)), (122, .iconst 0, 123, (0, 0, 0, 0, 0, 0)), (123, .istore 5, 125, (0, 0, 0, 0, 0, 0)), (125, .iload 5, 127, (0, 0, 0, 0, 0, 0)), (127, .iload_n 3, 128, (0, 0, 0, 0, 0, 0)), (128, .if_icmp .le 8, 131, (136, 0, 0, 0, 0, 0)), (131, .iload 5, 133, (0, 0, 0, 0, 0, 0)), (133, .goto 4, 136, (137, 0, 0, 0, 0, 0)), (136, .iload_n 3, 137, (0, 0, 0, 0, 0, 0)), (137, .istore_n 3, 138, (0, 0, 0, 0, 0, 0)), (138, .iinc 4 1, 141, (0, 0, 0, 0, 1, 0)), (141, .goto (-71), 144, (70, 0, 0, 0, 0, 0)), (144, .aload_n 0, 145, (0, 0, 0, 0, 0, 0)), (145, .getfield 32, 148, (0, 9, 7, 0, 0, 0)), (148, .sipush 16384, 151, (0, 0, 0, 0, 16384, 0)), (151, .iload_n 1, 152, (0, 0, 0, 0, 0, 0)), (152, .imul, 153, (0, 0, 0, 0, 0, 0)), (153, .iload_n 2, 154, (0, 0, 0, 0, 0, 0)), (154, .iadd, 155, (0, 0, 0, 0, 0, 0)), (155, .iload_n 3, 156, (0, 0, 0, 0, 0, 0)), (156, .i2b, 157, (0, 0, 0, 0, 0, 0)), (157, .bastore, 158, (2, 2, 0, 2, 0, 0)), (158, .iinc 2 1, 161, (0, 0, 0, 0, 1, 0)), (161, .goto (-117), 164, (44, 0, 0, 0, 0, 0)), (164, .iinc 1 (-1), 167, (0, 0, 0, 0, (-1), 0)), (167, .goto (-129), 170, (38, 0, 0, 0, 0, 0)), (170, .return_, 171, (0, 0, 0, 0, 0, 0))]
theorem okX9_findGets : zv_ok 6 cX9_findGets RX9 zt vwCl tbX9_findGets = true := by decide +kernel
theorem dzX9_findGets_46 : decode cX9_findGets 46 = .ok (.invokevirtual 61, 3) := by decide +kernel
theorem dzX9_findGets_83 : decode cX9_findGets 83 = .ok (.invokevirtual 46, 3) := by decide +kernel
theorem dzX9_findGets_92 : decode cX9_findGets 92 = .ok (.invokestatic 58, 3) := by decide +kernel
theorem dzX9_findGets_170 : decode cX9_findGets 170 = .ok (.return_, 1) := by decide +kernel
set_option maxRecDepth 100000 in
theorem inX9_findGets : Jvm.Cond.code yX9_findGets cX9_findGets 6 none ∈ zt := List.mem_filter.mpr ⟨List.mem_append_right _ (List.mem_of_getElem? (i := 708) rfl), rfl⟩
def tbX9_next : List zv_I := [(0, .aload_n 0, 1, (0, 0, 0, 0, 0, 0)), (1, .iload_n 1, 2, (0, 0, 0, 0, 0, 0)), (2, .invokevirtual 42, 5, (0, 0, 0, 0, 0, 0)), (5, .ifCond .ne 5, 8, (10, 0, 0, 0, 0, 0)), (8, .iconst (-1), 9, (0, 0, 0, 0, (-1), 0)), (9, .ireturn, 10, (0, 0, 0, 0, 0, 0)), (10, .aload_n 0, 11, (0, 0, 0, 0, 0, 0)), (11, .invokevirtual 93, 14, (0, 0, 0, 0, 0, 0)), (14, .aload_n 0, 15, (0, 0, 0, 0, 0, 0)), (15, .getfield 7, 18, (0, 9, 0, 0, 0, 0)), (18, .aload_n 0, 19, (0, 0, 0, 0, 0, 0)), (19, .invokevirtual 81, 22, (0, 0, 0, 0, 0, 0)), (22, .invokestatic 64, 25, (0, 0, 0, 0, 0, 0)), (25, .isub, 26, (0, 0, 0, 0, 0, 0)), (26, .istore_n 2, 27, (0, 0, 0, 0, 0, 0)), (27, .iconst 0, 28, (0, 0, 0, 0, 0, 0)), (28, .istore_n 3, 29, (0, 0, 0, 0, 0, 0)), (29, .iconst (-1), 30, (0, 0, 0, 0, (-1), 0)), (30, .istore 4, 32, (0, 0, 0, 0, 0, 0)), (32, .iconst 0, 33, (0, 0, 0, 0, 0, 0)), (33, .istore 5, 35, (0, 0, 0, 0, 0, 0)), (35, .iload 5, 37, (0, 0, 0, 0, 0, 0)), (37, .iload_n 1, 38, (0, 0, 0, 0, 0, 0)), (38, .if_icmp .gt 114, 41, (152, 0, 0, 0, 0, 0)), (41, .iconst (-1), 42, (0, 0, 0, 0, (-1), 0)), (42, .istore 4, 44, (0, 0, 0, 0, 0, 0)), (44, .aload_n 0, 45, (0, 0, 0, 0, 0, 0)), (45, .getfield 7, 48, (0, 9, 0, 0, 0, 0)), (48, .iconst 1, 49, (0, 0, 0, 0, 1, 0)), (49, .isub, 50, (0, 0, 0, 0, 0, 0)), (50, .istore 6, 52, (0, 0, 0, 0, 0, 0)), (52, .iload 6, 54, (0, 0, 0, 0, 0, 0)), (54, .ifCond .lt 76, 57, (130, 0, 0, 0, 0, 0)), (57, .aload_n 0, 58, (0, 0, 0, 0, 0, 0)), (58, .iload 5, 60, (0, 0, 0, 0, 0, 0)), (60, .iload 6, 62, (0, 0, 0, 0, 0, 0)), (62, .invokevirtual 46, 65, (0, 0, 0, 0, 0, 0)), (65, .ifCond .eq 42, 68, (107, 0, 0, 0, 0, 0)), (68, .iload_n 3, 69, (0, 0, 0, 0, 0, 0)), (69, .iload 6, 71, (0, 0, 0, 0, 0, 0)), (71, .invokestatic 58, 74, (0, 0, 0, 0, 0, 0)), (74, .ifCond .ne 33, 77, (107, 0, 0, 0, 0, 0)), (77, .iconst 1, 78, (0, 0, 0, 0, 1, 0)), (78, .aload_n 0, 79, (0, 0, 0, 0, 0, 0)), (79, .getfield 32, 82, (0, 9, 7, 0, 0, 0)), (82, .sipush 16384, 85, (0, 0, 0, 0, 16384, 0)), (85, .iload 5, 87, (0, 0, 0, 0, 0, 0)), (87, .iconst 1, 88, (0, 0, 0, 0, 1, 0)), (88, .iadd, 89, (0, 0, 0, 0, 0, 0)), (89, .imul, 90, (0, 0, 0, 0, 0, 0)), (90, .iload_n 3, 91, (0, 0, 0, 0, 0, 0)), (91, .iconst 1, 92, (0, 0, 0, 0, 1, 0)), (92, .iload 6, 94, (0, 0, 0, 0, 0, 0)), (94, .ishl, 95, (0, 0, 0, 0, 0, 0)), (95, .ior, 96, (0, 0, 0, 0, 0, 0)), (96, .iadd, 97, (0, 0, 0, 0, 0, 0)), (97, .baload, 98, (2, 2, 0, 2, 0, 0)), (98, .iadd, 99, (0, 0, 0, 0, 0, 0)), (99, .iload_n 2, 100, (0, 0, 0, 0, 0, 0)), (100, .if_icmp .ne 7, 103, (107, 0, 0, 0, 0, 0)), (103, .iconst 1, 104, (0, 0, 0, 0, 1, 0)), (104, .goto 4, 107, (108, 0, 0, 0, 0, 0)), (107, .iconst 0, 108, (0, 0, 0, 0, 0, 0)), (108, .istore 7, 110, (0, 0, 0, 0, 0, 0)), (110, .iload 7, 112, (0, 0, 0, 0, 0, 0)), (112, .ifCond .eq 8, 115, (120, 0, 0, 0, 0, 0)), (115, .iload 6, 117, (0, 0, 0, 0, 0, 0)), (117, .goto 5, 120, (122, 0, 0, 0, 0, 0)), (120, .iload 4, 122, (0, 0, 0, 0, 0, 0)), (122, .istore 4, 124, (0, 0, 0, 0, 0, 0)), (124, .iinc 6 (-1), 127, (0, 0, 0, 0, (-1), 0)), (127, .goto (-75), 130, (52, 0, 0, 0, 0, 0)), (130, .iload 4, 132, (0, 0, 0, 0, 0, 0)), (132, .iconst (-1), 133, (0, 0, 0, 0, (-1), 0)), (133, .if_icmp .eq 13, 136, (146, 0, 0, 0, 0, 0)), (136, .iload_n 3, 137, (0, 0, 0, 0, 0, 0)), (137, .iconst 1, 138, (0, 0, 0, 0, 1, 0)), (138, .iload 4, 140, (0, 0, 0, 0, 0, 0)), (140, .ishl, 141, (0, 0, 0, 0, 0, 0)), (141, .ior, 142, (0, 0, 0, 0, 0, 0)), (142, .istore_n 3, 143, (0, 0, 0, 0, 0, 0)), (143, .iinc 2 (-1), 146, (0, 0, 0, 0, (-1), 0)), (146, .iinc 5 1, 149, (0, 0, 0, 0, 1, 0)), (149, .goto (-114), 152, (35, 0, 0, 0, 0, 0)), (152, .iload 4, 154, (0, 0, 0, 0, 0, 0)), (154, .ireturn, 155, (0, 0, 0, 0, 0, 0))]
theorem okX9_next : zv_ok 8 cX9_next RX9 zt vwCl tbX9_next = true := by decide +kernel
theorem dzX9_next_2 : decode cX9_next 2 = .ok (.invokevirtual 42, 3) := by decide +kernel
theorem dzX9_next_9 : decode cX9_next 9 = .ok (.ireturn, 1) := by decide +kernel
theorem dzX9_next_11 : decode cX9_next 11 = .ok (.invokevirtual 93, 3) := by decide +kernel
theorem dzX9_next_19 : decode cX9_next 19 = .ok (.invokevirtual 81, 3) := by decide +kernel
theorem dzX9_next_22 : decode cX9_next 22 = .ok (.invokestatic 64, 3) := by decide +kernel
theorem dzX9_next_62 : decode cX9_next 62 = .ok (.invokevirtual 46, 3) := by decide +kernel
theorem dzX9_next_71 : decode cX9_next 71 = .ok (.invokestatic 58, 3) := by decide +kernel
theorem dzX9_next_154 : decode cX9_next 154 = .ok (.ireturn, 1) := by decide +kernel
set_option maxRecDepth 100000 in
theorem inX9_next : Jvm.Cond.code yX9_next cX9_next 8 ((some .int)) ∈ zt := List.mem_filter.mpr ⟨List.mem_append_right _ (List.mem_of_getElem? (i := 704) rfl), rfl⟩
def tbX9_findOrders : List zv_I := [(0, .aload_n 0, 1, (0, 0, 0, 0, 0, 0)), (1, .getfield 20, 4, (0, 9, 3, 0, 0, 0)), (4, .iconst 0, 5, (0, 0, 0, 0, 0, 0)), (5, .lconst 1, 6, (0, 0, 0, 0, 0, 1)), (6, .lastore, 7, (2, 1, 0, 1, 0, 0)), (7, .iconst 1, 8, (0, 0, 0, 0, 1, 0)), (8, .istore_n 2, 9, (0, 0, 0, 0, 0, 0)), (9, .iload_n 2, 10, (0, 0, 0, 0, 0, 0)), (10, .aload_n 0, 11, (0, 0, 0, 0, 0, 0)), (11, .invokevirtual 61, 14, (0, 0, 0, 0, 0, 0)), (14, .if_icmp .gt 120, 17, (134, 0, 0, 0, 0, 0)), (17, .aload_n 0, 18, (0, 0, 0, 0, 0, 0)), (18, .getfield 20, 21, (0, 9, 3, 0, 0, 0)), (21, .iload_n 2, 22, (0, 0, 0, 0, 0, 0)), (22, .lconst 0, 23, (0, 0, 0, 0, 0, 0)), (23, .lastore, 24, (2, 1, 0, 1, 0, 0)), (24, .iconst 0, 25, (0, 0, 0, 0, 0, 0)), (25, .istore_n 3, 26, (0, 0, 0, 0, 0, 0)), (26, .iload_n 3, 27, (0, 0, 0, 0, 0, 0)), (27, .aload_n 0, 28, (0, 0, 0, 0, 0, 0)), (28, .getfield 7, 31, (0, 9, 0, 0, 0, 0)), (31, .if_icmp .ge 97, 34, (128, 0, 0, 0, 0, 0)), (34, .iload_n 2, 35, (0, 0, 0, 0, 0, 0)), (35, .iload_n 3, 36, (0, 0, 0, 0, 0, 0)), (36, .invokestatic 58, 39, (0, 0, 0, 0, 0, 0)), (39, .istore 4, 41, (0, 0, 0, 0, 0, 0)), (41, .iconst 0, 42, (0, 0, 0, 0, 0, 0)), (42, .istore 5, 44, (0, 0, 0, 0, 0, 0)), (44, .iload 5, 46, (0, 0, 0, 0, 0, 0)), (46, .aload_n 0, 47, (0, 0, 0, 0, 0, 0)), (47, .getfield 7, 50, (0, 9, 0, 0, 0, 0)), (50, .if_icmp .ge 42, 53, (92, 0, 0, 0, 0, 0)), (53, .iload 4, 55, (0, 0, 0, 0, 0, 0)), (55, .ifCond .eq 28, 58, (83, 0, 0, 0, 0, 0)), (58, .iload_n 2, 59, (0, 0, 0, 0, 0, 0)), (59, .iload 5, 61, (0, 0, 0, 0, 0, 0)), (61, .invokestatic 58, 64, (0, 0, 0, 0, 0, 0)), (64, .ifCond .eq 15, 67, (79, 0, 0, 0, 0, 0)), (67, .aload_n 1, 68, (0, 0, 0, 0, 0, 0)), (68, .bipush 16, 70, (0, 0, 0, 0, 16, 0)), (70, .iload_n 3, 71, (0, 0, 0, 0, 0, 0)), (71, .imul, 72, (0, 0, 0, 0, 0, 0)), (72, .iload 5, 74, (0, 0, 0, 0, 0, 0)), (74, .iadd, 75, (0, 0, 0, 0, 0, 0)), (75, .baload, 76, (1, 3, 0, 3, 0, 0)), (76, .ifCond .ne 7, 79, (83, 0, 0, 0, 0, 0)), (79, .iconst 1, 80, (0, 0, 0, 0, 1, 0)), (80, .goto 4, 83, (84, 0, 0, 0, 0, 0)), (83, .iconst 0, 84, (0, 0, 0, 0, 0, 0)), (84, .istore 4, 86, (0, 0, 0, 0, 0, 0)), (86, .iinc 5 1, 89, (0, 0, 0, 0, 1, 0)), (89, .goto (-45), 92, (44, 0, 0, 0, 0, 0)), (92, .aload_n 0, 93, (0, 0, 0, 0, 0, 0)), (93, .getfield 20, 96, (0, 9, 3, 0, 0, 0)), (96, .iload_n 2, 97, (0, 0, 0, 0, 0, 0)), (97, .dup2, 98, (0, 0, 0, 0, 0, 0)), (98, .laload, 99, (2, 1, 0, 1, 0, 0)), (99, .iload 4, 101, (0, 0, 0, 0, 0, 0)), (101, .ifCond .eq 18, 104, (119, 0, 0, 0, 0, 0)), (104, .aload_n 0, 105, (0, 0, 0, 0, 0, 0)), (105, .getfield 20, 108, (0, 9, 3, 0, 0, 0)), (108, .iload_n 2, 109, (0, 0, 0, 0, 0, 0)), (109, .iconst 1, 110, (0, 0, 0, 0, 1, 0)), (110, .iload_n 3, 111, (0, 0, 0, 0, 0, 0)), (111, .ishl, 112, (0, 0, 0, 0, 0, 0)), (112, .iconst (-1), 113, (0, 0, 0, 0, (-1), 0)), (113, .ixor, 114, (0, 0, 0, 0, 0, 0)), (114, .iand, 115, (0, 0, 0, 0, 0, 0)), (115, .laload, 116, (2, 1, 0, 1, 0, 0)), (116, .goto 4, 119, (120, 0, 0, 0, 0, 0)), (119, .lconst 0, 120, (0, 0, 0, 0, 0, 0)), (120, .ladd, 121, (0, 0, 0, 0, 0, 0)), (121, .lastore, 122, (2, 1, 0, 1, 0, 0)), (122, .iinc 3 1, 125, (0, 0, 0, 0, 1, 0)), (125, .goto (-99), 128, (26, 0, 0, 0, 0, 0)), (128, .iinc 2 1, 131, (0, 0, 0, 0, 1, 0)), (131, .goto (-122), 134, (9, 0, 0, 0, 0, 0)), (134, .return_, 135, (0, 0, 0, 0, 0, 0))]
theorem okX9_findOrders : zv_ok 6 cX9_findOrders RX9 zt vwCl tbX9_findOrders = true := by decide +kernel
theorem dzX9_findOrders_11 : decode cX9_findOrders 11 = .ok (.invokevirtual 61, 3) := by decide +kernel
theorem dzX9_findOrders_36 : decode cX9_findOrders 36 = .ok (.invokestatic 58, 3) := by decide +kernel
theorem dzX9_findOrders_61 : decode cX9_findOrders 61 = .ok (.invokestatic 58, 3) := by decide +kernel
theorem dzX9_findOrders_134 : decode cX9_findOrders 134 = .ok (.return_, 1) := by decide +kernel
set_option maxRecDepth 100000 in
theorem inX9_findOrders : Jvm.Cond.code yX9_findOrders cX9_findOrders 6 none ∈ zt := List.mem_filter.mpr ⟨List.mem_append_right _ (List.mem_of_getElem? (i := 716) rfl), rfl⟩
def tbX9_rows : List zv_I := [(0, .aload_n 0, 1, (0, 0, 0, 0, 0, 0)), (1, .aload_n 0, 2, (0, 0, 0, 0, 0, 0)), (2, .getfield 13, 5, (0, 9, 1, 0, 0, 0)), (5, .invokevirtual 96, 8, (0, 0, 0, 0, 0, 0)), (8, .aload_n 0, 9, (0, 0, 0, 0, 0, 0)), (9, .getfield 20, 12, (0, 9, 3, 0, 0, 0)), (12, .aload_n 0, 13, (0, 0, 0, 0, 0, 0)), (13, .invokevirtual 61, 16, (0, 0, 0, 0, 0, 0)), (16, .laload, 17, (2, 1, 0, 1, 0, 0)), (17, .lreturn, 18, (0, 0, 0, 0, 0, 0))]
theorem okX9_rows : zv_ok 1 cX9_rows RX9 zt vwCl tbX9_rows = true := by decide +kernel
theorem dzX9_rows_5 : decode cX9_rows 5 = .ok (.invokevirtual 96, 3) := by decide +kernel
theorem dzX9_rows_13 : decode cX9_rows 13 = .ok (.invokevirtual 61, 3) := by decide +kernel
theorem dzX9_rows_17 : decode cX9_rows 17 = .ok (.lreturn, 1) := by decide +kernel
set_option maxRecDepth 100000 in
theorem inX9_rows : Jvm.Cond.code yX9_rows cX9_rows 1 ((some .long)) ∈ zt := List.mem_filter.mpr ⟨List.mem_append_right _ (List.mem_of_getElem? (i := 712) rfl), rfl⟩
def tbX9_before : List zv_I := [(0, .aload_n 0, 1, (0, 0, 0, 0, 0, 0)), (1, .iload_n 1, 2, (0, 0, 0, 0, 0, 0)), (2, .invokevirtual 42, 5, (0, 0, 0, 0, 0, 0)), (5, .ifCond .eq 16, 8, (21, 0, 0, 0, 0, 0)), (8, .aload_n 0, 9, (0, 0, 0, 0, 0, 0)), (9, .iload_n 2, 10, (0, 0, 0, 0, 0, 0)), (10, .invokevirtual 42, 13, (0, 0, 0, 0, 0, 0)), (13, .ifCond .eq 8, 16, (21, 0, 0, 0, 0, 0)), (16, .iload_n 1, 17, (0, 0, 0, 0, 0, 0)), (17, .iload_n 2, 18, (0, 0, 0, 0, 0, 0)), (18, .if_icmp .ne 7, 21, (25, 0, 0, 0, 0, 0)), (21, .ldc2_w 99, 24, (0, 0, 0, 0, 0, (-1))), (24, .lreturn, 25, (0, 0, 0, 0, 0, 0)), (25, .aload_n 0, 26, (0, 0, 0, 0, 0, 0)), (26, .iload_n 2, 27, (0, 0, 0, 0, 0, 0)), (27, .iload_n 1, 28, (0, 0, 0, 0, 0, 0)), (28, .invokevirtual 46, 31, (0, 0, 0, 0, 0, 0)), (31, .ifCond .eq 5, 34, (36, 0, 0, 0, 0, 0)), (34, .lconst 0, 35, (0, 0, 0, 0, 0, 0)), (35, .lreturn, 36, (0, 0, 0, 0, 0, 0)), (36, .iconst 0, 37, (0, 0, 0, 0, 0, 0)), (37, .istore_n 3, 38, (0, 0, 0, 0, 0, 0)), (38, .iload_n 3, 39, (0, 0, 0, 0, 0, 0)), (39, .sipush 256, 42, (0, 0, 0, 0, 256, 0)), (42, .if_icmp .ge 21, 45, (63, 0, 0, 0, 0, 0)), (45, .aload_n 0, 46, (0, 0, 0, 0, 0, 0)), (46, .getfield 17, 49, (0, 9, 2, 0, 0, 0)), (49, .iload_n 3, 50, (0, 0, 0, 0, 0, 0)), (50, .aload_n 0, 51, (0, 0, 0, 0, 0, 0)), (51, .getfield 13, 54, (0, 9, 1, 0, 0, 0)), (54, .iload_n 3, 55, (0, 0, 0, 0, 0, 0)), (55, .baload, 56, (1, 3, 0, 3, 0, 0)), (56, .bastore, 57, (2, 3, 0, 3, 0, 0)), (57, .iinc 3 1, 60, (0, 0, 0, 0, 1, 0)), (60, .goto (-22), 63, (38, 0, 0, 0, 0, 0)), (63, .aload_n 0, 64, (0, 0, 0, 0, 0, 0)), (64, .getfield 17, 67, (0, 9, 2, 0, 0, 0)), (67, .bipush 16, 69, (0, 0, 0, 0, 16, 0)), (69, .iload_n 1, 70, (0, 0, 0, 0, 0, 0)), (70, .imul, 71, (0, 0, 0, 0, 0, 0)), (71, .iload_n 2, 72, (0, 0, 0, 0, 0, 0)), (72, .iadd, 73, (0, 0, 0, 0, 0, 0)), (73, .iconst 1, 74, (0, 0, 0, 0, 1, 0)), (74, .bastore, 75, (2, 3, 0, 3, 0, 0)), (75, .aload_n 0, 76, (0, 0, 0, 0, 0, 0)), (76, .aload_n 0, 77, (0, 0, 0, 0, 0, 0)), (77, .getfield 17, 80, (0, 9, 2, 0, 0, 0)), (80, .invokevirtual 54, 83, (0, 0, 0, 0, 0, 0)), (83, .aload_n 0, 84, (0, 0, 0, 0, 0, 0)), (84, .aload_n 0, 85, (0, 0, 0, 0, 0, 0)), (85, .getfield 17, 88, (0, 9, 2, 0, 0, 0)), (88, .invokevirtual 96, 91, (0, 0, 0, 0, 0, 0)), (91, .aload_n 0, 92, (0, 0, 0, 0, 0, 0)), (92, .getfield 20, 95, (0, 9, 3, 0, 0, 0)), (95, .aload_n 0, 96, (0, 0, 0, 0, 0, 0)), (96, .invokevirtual 61, 99, (0, 0, 0, 0, 0, 0)), (99, .laload, 100, (3, 1, 0, 1, 0, 0)), (100, .lreturn, 101, (0, 0, 0, 0, 0, 0))]
theorem okX9_before : zv_ok 4 cX9_before RX9 zt vwCl tbX9_before = true := by decide +kernel
theorem dzX9_before_2 : decode cX9_before 2 = .ok (.invokevirtual 42, 3) := by decide +kernel
theorem dzX9_before_10 : decode cX9_before 10 = .ok (.invokevirtual 42, 3) := by decide +kernel
theorem dzX9_before_24 : decode cX9_before 24 = .ok (.lreturn, 1) := by decide +kernel
theorem dzX9_before_28 : decode cX9_before 28 = .ok (.invokevirtual 46, 3) := by decide +kernel
theorem dzX9_before_35 : decode cX9_before 35 = .ok (.lreturn, 1) := by decide +kernel
theorem dzX9_before_80 : decode cX9_before 80 = .ok (.invokevirtual 54, 3) := by decide +kernel
theorem dzX9_before_88 : decode cX9_before 88 = .ok (.invokevirtual 96, 3) := by decide +kernel
theorem dzX9_before_96 : decode cX9_before 96 = .ok (.invokevirtual 61, 3) := by decide +kernel
theorem dzX9_before_100 : decode cX9_before 100 = .ok (.lreturn, 1) := by decide +kernel
set_option maxRecDepth 100000 in
theorem inX9_before : Jvm.Cond.code yX9_before cX9_before 4 ((some .long)) ∈ zt := List.mem_filter.mpr ⟨List.mem_append_right _ (List.mem_of_getElem? (i := 720) rfl), rfl⟩
def tbX9_places : List zv_I := [(0, .aload_n 0, 1, (0, 0, 0, 0, 0, 0)), (1, .iload_n 1, 2, (0, 0, 0, 0, 0, 0)), (2, .invokevirtual 42, 5, (0, 0, 0, 0, 0, 0)), (5, .ifCond .eq 15, 8, (20, 0, 0, 0, 0, 0)), (8, .iload_n 2, 9, (0, 0, 0, 0, 0, 0)), (9, .ifCond .lt 11, 12, (20, 0, 0, 0, 0, 0)), (12, .iload_n 2, 13, (0, 0, 0, 0, 0, 0)), (13, .aload_n 0, 14, (0, 0, 0, 0, 0, 0)), (14, .getfield 7, 17, (0, 9, 0, 0, 0, 0)), (17, .if_icmp .lt 7, 20, (24, 0, 0, 0, 0, 0)), (20, .ldc2_w 99, 23, (0, 0, 0, 0, 0, (-1))), (23, .lreturn, 24, (0, 0, 0, 0, 0, 0)), (24, .aload_n 0, 25, (0, 0, 0, 0, 0, 0)), (25, .aload_n 0, 26, (0, 0, 0, 0, 0, 0)), (26, .getfield 13, 29, (0, 9, 1, 0, 0, 0)), (29, .invokevirtual 96, 32, (0, 0, 0, 0, 0, 0)), (32, .lconst 0, 33, (0, 0, 0, 0, 0, 0)), (33, .lstore_n 3, 34, (0, 0, 0, 0, 0, 0)), (34, .iconst 0, 35, (0, 0, 0, 0, 0, 0)), (35, .istore 5, 37, (0, 0, 0, 0, 0, 0)), (37, .iload 5, 39, (0, 0, 0, 0, 0, 0)), (39, .aload_n 0, 40, (0, 0, 0, 0, 0, 0)), (40, .invokevirtual 61, 43, (0, 0, 0, 0, 0, 0)), (43, .if_icmp .gt 80, 46, (123, 0, 0, 0, 0, 0)), (46, .iload 5, 48, (0, 0, 0, 0, 0, 0)), (48, .invokestatic 64, 51, (0, 0, 0, 0, 0, 0)), (51, .iload_n 2, 52, (0, 0, 0, 0, 0, 0)), (52, .if_icmp .ne 65, 55, (117, 0, 0, 0, 0, 0)), (55, .iload 5, 57, (0, 0, 0, 0, 0, 0)), (57, .iload_n 1, 58, (0, 0, 0, 0, 0, 0)), (58, .invokestatic 58, 61, (0, 0, 0, 0, 0, 0)), (61, .ifCond .ne 56, 64, (117, 0, 0, 0, 0, 0)), (64, .aload_n 0, 65, (0, 0, 0, 0, 0, 0)), (65, .iload 5, 67, (0, 0, 0, 0, 0, 0)), (67, .invokevirtual 84, 70, (0, 0, 0, 0, 0, 0)), (70, .ifCond .eq 47, 73, (117, 0, 0, 0, 0, 0)), (73, .aload_n 0, 74, (0, 0, 0, 0, 0, 0)), (74, .iload 5, 76, (0, 0, 0, 0, 0, 0)), (76, .iconst 1, 77, (0, 0, 0, 0, 1, 0)), (77, .iload_n 1, 78, (0, 0, 0, 0, 0, 0)), (78, .ishl, 79, (0, 0, 0, 0, 0, 0)), (79, .ior, 80, (0, 0, 0, 0, 0, 0)), (80, .invokevirtual 84, 83, (0, 0, 0, 0, 0, 0)), (83, .ifCond .eq 34, 86, (117, 0, 0, 0, 0, 0)), (86, .lload_n 3, 87, (0, 0, 0, 0, 0, 0)), (87, .aload_n 0, 88, (0, 0, 0, 0, 0, 0)), (88, .getfield 20, 91, (0, 9, 3, 0, 0, 0)), (91, .iload 5, 93, (0, 0, 0, 0, 0, 0)), (93, .laload, 94, (2, 1, 0, 1, 0, 0)), (94, .aload_n 0, 95, (0, 0, 0, 0, 0, 0)), (95, .getfield 20, 98, (0, 9, 3, 0, 0, 0)), (98, .aload_n 0, 99, (0, 0, 0, 0, 0, 0)), (99, .invokevirtual 61, 102, (0, 0, 0, 0, 0, 0)), (102, .iload 5, 104, (0, 0, 0, 0, 0, 0)), (104, .iconst (-1), 105, (0, 0, 0, 0, (-1), 0)), (105, .ixor, 106, (0, 0, 0, 0, 0, 0)), (106, .iand, 107, (0, 0, 0, 0, 0, 0)), (107, .iconst 1, 108, (0, 0, 0, 0, 1, 0)), (108, .iload_n 1, 109, (0, 0, 0, 0, 0, 0)), (109, .ishl, 110, (0, 0, 0, 0, 0, 0)), (110, .iconst (-1), 111, (0, 0, 0, 0, (-1), 0)), (111, .ixor, 112, (0, 0, 0, 0, 0, 0)), (112, .iand, 113, (0, 0, 0, 0, 0, 0)), (113, .laload, 114, (2, 1, 0, 1, 0, 0)), (114, .lmul, 115, (0, 0, 0, 0, 0, 0)), (115, .ladd, 116, (0, 0, 0, 0, 0, 0)), (116, .lstore_n 3, 117, (0, 0, 0, 0, 0, 0)), (117, .iinc 5 1, 120, (0, 0, 0, 0, 1, 0)), (120, .goto (-83), 123, (37, 0, 0, 0, 0, 0)), (123, .lload_n 3, 124, (0, 0, 0, 0, 0, 0)), (124, .lreturn, 125, (0, 0, 0, 0, 0, 0))]
theorem okX9_places : zv_ok 6 cX9_places RX9 zt vwCl tbX9_places = true := by decide +kernel
theorem dzX9_places_2 : decode cX9_places 2 = .ok (.invokevirtual 42, 3) := by decide +kernel
theorem dzX9_places_23 : decode cX9_places 23 = .ok (.lreturn, 1) := by decide +kernel
theorem dzX9_places_29 : decode cX9_places 29 = .ok (.invokevirtual 96, 3) := by decide +kernel
theorem dzX9_places_40 : decode cX9_places 40 = .ok (.invokevirtual 61, 3) := by decide +kernel
theorem dzX9_places_48 : decode cX9_places 48 = .ok (.invokestatic 64, 3) := by decide +kernel
theorem dzX9_places_58 : decode cX9_places 58 = .ok (.invokestatic 58, 3) := by decide +kernel
theorem dzX9_places_67 : decode cX9_places 67 = .ok (.invokevirtual 84, 3) := by decide +kernel
theorem dzX9_places_80 : decode cX9_places 80 = .ok (.invokevirtual 84, 3) := by decide +kernel
theorem dzX9_places_99 : decode cX9_places 99 = .ok (.invokevirtual 61, 3) := by decide +kernel
theorem dzX9_places_124 : decode cX9_places 124 = .ok (.lreturn, 1) := by decide +kernel
set_option maxRecDepth 100000 in
theorem inX9_places : Jvm.Cond.code yX9_places cX9_places 6 ((some .long)) ∈ zt := List.mem_filter.mpr ⟨List.mem_append_right _ (List.mem_of_getElem? (i := 725) rfl), rfl⟩
def tbX9_mayCome : List zv_I := [(0, .iload_n 2, 1, (0, 0, 0, 0, 0, 0)), (1, .iload_n 1, 2, (0, 0, 0, 0, 0, 0)), (2, .invokestatic 58, 5, (0, 0, 0, 0, 0, 0)), (5, .istore_n 3, 6, (0, 0, 0, 0, 0, 0)), (6, .iconst 0, 7, (0, 0, 0, 0, 0, 0)), (7, .istore 4, 9, (0, 0, 0, 0, 0, 0)), (9, .iload 4, 11, (0, 0, 0, 0, 0, 0)), (11, .aload_n 0, 12, (0, 0, 0, 0, 0, 0)), (12, .getfield 7, 15, (0, 9, 0, 0, 0, 0)), (15, .if_icmp .ge 38, 18, (53, 0, 0, 0, 0, 0)), (18, .iload_n 3, 19, (0, 0, 0, 0, 0, 0)), (19, .ifCond .eq 26, 22, (45, 0, 0, 0, 0, 0)), (22, .iload_n 2, 23, (0, 0, 0, 0, 0, 0)), (23, .iload 4, 25, (0, 0, 0, 0, 0, 0)), (25, .invokestatic 58, 28, (0, 0, 0, 0, 0, 0)), (28, .ifCond .eq 13, 31, (41, 0, 0, 0, 0, 0)), (31, .aload_n 0, 32, (0, 0, 0, 0, 0, 0)), (32, .iload 4, 34, (0, 0, 0, 0, 0, 0)), (34, .iload_n 1, 35, (0, 0, 0, 0, 0, 0)), (35, .invokevirtual 46, 38, (0, 0, 0, 0, 0, 0)), (38, .ifCond .ne 7, 41, (45, 0, 0, 0, 0, 0)), (41, .iconst 1, 42, (0, 0, 0, 0, 1, 0)), (42, .goto 4, 45, (46, 0, 0, 0, 0, 0)), (45, .iconst 0, 46, (0, 0, 0, 0, 0, 0)), (46, .istore_n 3, 47, (0, 0, 0, 0, 0, 0)), (47, .iinc 4 1, 50, (0, 0, 0, 0, 1, 0)), (50, .goto (-41), 53, (9, 0, 0, 0, 0, 0)), (53, .iload_n 3, 54, (0, 0, 0, 0, 0, 0)), (54, .ireturn, 55, (0, 0, 0, 0, 0, 0))]
theorem okX9_mayCome : zv_ok 5 cX9_mayCome RX9 zt vwCl tbX9_mayCome = true := by decide +kernel
theorem dzX9_mayCome_2 : decode cX9_mayCome 2 = .ok (.invokestatic 58, 3) := by decide +kernel
theorem dzX9_mayCome_25 : decode cX9_mayCome 25 = .ok (.invokestatic 58, 3) := by decide +kernel
theorem dzX9_mayCome_35 : decode cX9_mayCome 35 = .ok (.invokevirtual 46, 3) := by decide +kernel
theorem dzX9_mayCome_54 : decode cX9_mayCome 54 = .ok (.ireturn, 1) := by decide +kernel
set_option maxRecDepth 100000 in
theorem inX9_mayCome : Jvm.Cond.code yX9_mayCome cX9_mayCome 5 ((some .boolean)) ∈ zt := List.mem_filter.mpr ⟨List.mem_append_right _ (List.mem_of_getElem? (i := 733) rfl), rfl⟩
def tbX9_row : List zv_I := [(0, .aload_n 0, 1, (0, 0, 0, 0, 0, 0)), (1, .aload_n 0, 2, (0, 0, 0, 0, 0, 0)), (2, .getfield 13, 5, (0, 9, 1, 0, 0, 0)), (5, .invokevirtual 96, 8, (0, 0, 0, 0, 0, 0)), (8, .lload_n 1, 9, (0, 0, 0, 0, 0, 0)), (9, .lconst 0, 10, (0, 0, 0, 0, 0, 0)), (10, .lcmp, 11, (0, 0, 0, 0, 0, 0)), (11, .ifCond .lt 17, 14, (28, 0, 0, 0, 0, 0)), (14, .lload_n 1, 15, (0, 0, 0, 0, 0, 0)), (15, .aload_n 0, 16, (0, 0, 0, 0, 0, 0)), (16, .getfield 20, 19, (0, 9, 3, 0, 0, 0)), (19, .aload_n 0, 20, (0, 0, 0, 0, 0, 0)), (20, .invokevirtual 61, 23, (0, 0, 0, 0, 0, 0)), (23, .laload, 24, (2, 1, 0, 1, 0, 0)), (24, .lcmp, 25, (0, 0, 0, 0, 0, 0)), (25, .ifCond .lt 7, 28, (32, 0, 0, 0, 0, 0)), (28, .ldc2_w 99, 31, (0, 0, 0, 0, 0, (-1))), (31, .lreturn, 32, (0, 0, 0, 0, 0, 0)), (32, .lconst 0, 33, (0, 0, 0, 0, 0, 0)), (33, .lstore_n 3, 34, (0, 0, 0, 0, 0, 0)), (34, .lload_n 1, 35, (0, 0, 0, 0, 0, 0)), (35, .lstore 5, 37, (0, 0, 0, 0, 0, 0)), (37, .aload_n 0, 38, (0, 0, 0, 0, 0, 0)), (38, .invokevirtual 61, 41, (0, 0, 0, 0, 0, 0)), (41, .istore 7, 43, (0, 0, 0, 0, 0, 0)), (43, .iconst 0, 44, (0, 0, 0, 0, 0, 0)), (44, .istore 8, 46, (0, 0, 0, 0, 0, 0)), (46, .iload 8, 48, (0, 0, 0, 0, 0, 0)), (48, .aload_n 0, 49, (0, 0, 0, 0, 0, 0)), (49, .getfield 7, 52, (0, 9, 0, 0, 0, 0)), (52, .if_icmp .ge 105, 55, (157, 0, 0, 0, 0, 0)), (55, .iconst 0, 56, (0, 0, 0, 0, 0, 0)), (56, .istore 9, 58, (0, 0, 0, 0, 0, 0)), (58, .aload_n 0, 59, (0, 0, 0, 0, 0, 0)), (59, .iload 9, 61, (0, 0, 0, 0, 0, 0)), (61, .iload 7, 63, (0, 0, 0, 0, 0, 0)), (63, .invokevirtual 101, 66, (0, 0, 0, 0, 0, 0)), (66, .ifCond .eq 23, 69, (89, 0, 0, 0, 0, 0)), (69, .lload 5, 71, (0, 0, 0, 0, 0, 0)), (71, .aload_n 0, 72, (0, 0, 0, 0, 0, 0)), (72, .getfield 20, 75, (0, 9, 3, 0, 0, 0)), (75, .iload 7, 77, (0, 0, 0, 0, 0, 0)), (77, .iconst 1, 78, (0, 0, 0, 0, 1, 0)), (78, .iload 9, 80, (0, 0, 0, 0, 0, 0)), (80, .ishl, 81, (0, 0, 0, 0, 0, 0)), (81, .iconst (-1), 82, (0, 0, 0, 0, (-1), 0)), (82, .ixor, 83, (0, 0, 0, 0, 0, 0)), (83, .iand, 84, (0, 0, 0, 0, 0, 0)), (84, .laload, 85, (2, 1, 0, 1, 0, 0)), (85, .lcmp, 86, (0, 0, 0, 0, 0, 0)), (86, .ifCond .lt 43, 89, (129, 0, 0, 0, 0, 0)), (89, .lload 5, 91, (0, 0, 0, 0, 0, 0)), (91, .aload_n 0, 92, (0, 0, 0, 0, 0, 0)), (92, .iload 9, 94, (0, 0, 0, 0, 0, 0)), (94, .iload 7, 96, (0, 0, 0, 0, 0, 0)), (96, .invokevirtual 101, 99, (0, 0, 0, 0, 0, 0)), (99, .ifCond .eq 20, 102, (119, 0, 0, 0, 0, 0)), (102, .aload_n 0, 103, (0, 0, 0, 0, 0, 0)), (103, .getfield 20, 106, (0, 9, 3, 0, 0, 0)), (106, .iload 7, 108, (0, 0, 0, 0, 0, 0)), (108, .iconst 1, 109, (0, 0, 0, 0, 1, 0)), (109, .iload 9, 111, (0, 0, 0, 0, 0, 0)), (111, .ishl, 112, (0, 0, 0, 0, 0, 0)), (112, .iconst (-1), 113, (0, 0, 0, 0, (-1), 0)), (113, .ixor, 114, (0, 0, 0, 0, 0, 0)), (114, .iand, 115, (0, 0, 0, 0, 0, 0)), (115, .laload, 116, (2, 1, 0, 1, 0, 0)), (116, .goto 4, 119, (120, 0, 0, 0, 0, 0)), (119, .lconst 0, 120, (0, 0, 0, 0, 0, 0)), (120, .lsub, 121, (0, 0, 0, 0, 0, 0)), (121, .lstore 5, 123, (0, 0, 0, 0, 0, 0)), (123, .iinc 9 1, 126, (0, 0, 0, 0, 1, 0)), (126, .goto (-68), 129, (58, 0, 0, 0, 0, 0)), (129, .lload_n 3, 130, (0, 0, 0, 0, 0, 0)), (130, .iload 9, 132, (0, 0, 0, 0, 0, 0)), (132, .i2l, 133, (0, 0, 0, 0, 0, 0)), (133, .iconst 4, 134, (0, 0, 0, 0, 4, 0)), (134, .iload 8, 136, (0, 0, 0, 0, 0, 0)), (136, .imul, 137, (0, 0, 0, 0, 0, 0)), (137, .lshl, 138, (0, 0, 0, 0, 0, 0)), (138, .lor, 139, (0, 0, 0, 0, 0, 0)), (139, .lstore_n 3, 140, (0, 0, 0, 0, 0, 0)), (140, .iload 7, 142, (0, 0, 0, 0, 0, 0)), (142, .iconst 1, 143, (0, 0, 0, 0, 1, 0)), (143, .iload 9, 145, (0, 0, 0, 0, 0, 0)), (145, .ishl, 146, (0, 0, 0, 0, 0, 0)), (146, .iconst (-1), 147, (0, 0, 0, 0, (-1), 0)), (147, .ixor, 148, (0, 0, 0, 0, 0, 0)), (148, .iand, 149, (0, 0, 0, 0, 0, 0)), (149, .istore 7, 151, (0, 0, 0, 0, 0, 0)), (151, .iinc 8 1, 154, (0, 0, 0, 0, 1, 0)), (154, .goto (-108), 157, (46, 0, 0, 0, 0, 0)), (157, .lload_n 3, 158, (0, 0, 0, 0, 0, 0)), (158, .lreturn, 159, (0, 0, 0, 0, 0, 0))]
theorem okX9_row : zv_ok 10 cX9_row RX9 zt vwCl tbX9_row = true := by decide +kernel
theorem dzX9_row_5 : decode cX9_row 5 = .ok (.invokevirtual 96, 3) := by decide +kernel
theorem dzX9_row_20 : decode cX9_row 20 = .ok (.invokevirtual 61, 3) := by decide +kernel
theorem dzX9_row_31 : decode cX9_row 31 = .ok (.lreturn, 1) := by decide +kernel
theorem dzX9_row_38 : decode cX9_row 38 = .ok (.invokevirtual 61, 3) := by decide +kernel
theorem dzX9_row_63 : decode cX9_row 63 = .ok (.invokevirtual 101, 3) := by decide +kernel
theorem dzX9_row_96 : decode cX9_row 96 = .ok (.invokevirtual 101, 3) := by decide +kernel
theorem dzX9_row_158 : decode cX9_row 158 = .ok (.lreturn, 1) := by decide +kernel
set_option maxRecDepth 100000 in
theorem inX9_row : Jvm.Cond.code yX9_row cX9_row 10 ((some .long)) ∈ zt := List.mem_filter.mpr ⟨List.mem_append_right _ (List.mem_of_getElem? (i := 729) rfl), rfl⟩
def tbX9_rank : List zv_I := [(0, .aload_n 0, 1, (0, 0, 0, 0, 0, 0)), (1, .aload_n 0, 2, (0, 0, 0, 0, 0, 0)), (2, .getfield 13, 5, (0, 9, 1, 0, 0, 0)), (5, .invokevirtual 96, 8, (0, 0, 0, 0, 0, 0)), (8, .lconst 0, 9, (0, 0, 0, 0, 0, 0)), (9, .lstore_n 3, 10, (0, 0, 0, 0, 0, 0)), (10, .aload_n 0, 11, (0, 0, 0, 0, 0, 0)), (11, .invokevirtual 61, 14, (0, 0, 0, 0, 0, 0)), (14, .istore 5, 16, (0, 0, 0, 0, 0, 0)), (16, .iconst 0, 17, (0, 0, 0, 0, 0, 0)), (17, .istore 6, 19, (0, 0, 0, 0, 0, 0)), (19, .iload 6, 21, (0, 0, 0, 0, 0, 0)), (21, .bipush 16, 23, (0, 0, 0, 0, 16, 0)), (23, .if_icmp .ge 123, 26, (146, 0, 0, 0, 0, 0)), (26, .lload_n 1, 27, (0, 0, 0, 0, 0, 0)), (27, .iconst 4, 28, (0, 0, 0, 0, 4, 0)), (28, .iload 6, 30, (0, 0, 0, 0, 0, 0)), (30, .imul, 31, (0, 0, 0, 0, 0, 0)), (31, .lshr, 32, (0, 0, 0, 0, 0, 0)), (32, .ldc2_w 104, 35, (0, 0, 0, 0, 0, 15)), (35, .land, 36, (0, 0, 0, 0, 0, 0)), (36, .l2i, 37, (0, 0, 0, 0, 0, 0)), (37, .istore 7, 39, (0, 0, 0, 0, 0, 0)), (39, .iload 6, 41, (0, 0, 0, 0, 0, 0)), (41, .aload_n 0, 42, (0, 0, 0, 0, 0, 0)), (42, .getfield 7, 45, (0, 9, 0, 0, 0, 0)), (45, .if_icmp .lt 12, 48, (57, 0, 0, 0, 0, 0)), (48, .iload 7, 50, (0, 0, 0, 0, 0, 0)), (50, .ifCond .eq 90, 53, (140, 0, 0, 0, 0, 0)), (53, .ldc2_w 99, 56, (0, 0, 0, 0, 0, (-1))), (56, .lreturn, 57, (0, 0, 0, 0, 0, 0)), (57, .iload 7, 59, (0, 0, 0, 0, 0, 0)), (59, .aload_n 0, 60, (0, 0, 0, 0, 0, 0)), (60, .getfield 7, 63, (0, 9, 0, 0, 0, 0)), (63, .if_icmp .ge 14, 66, (77, 0, 0, 0, 0, 0)), (66, .aload_n 0, 67, (0, 0, 0, 0, 0, 0)), (67, .iload 7, 69, (0, 0, 0, 0, 0, 0)), (69, .iload 5, 71, (0, 0, 0, 0, 0, 0)), (71, .invokevirtual 101, 74, (0, 0, 0, 0, 0, 0)), (74, .ifCond .ne 7, 77, (81, 0, 0, 0, 0, 0)), (77, .ldc2_w 99, 80, (0, 0, 0, 0, 0, (-1))), (80, .lreturn, 81, (0, 0, 0, 0, 0, 0)), (81, .iconst 0, 82, (0, 0, 0, 0, 0, 0)), (82, .istore 8, 84, (0, 0, 0, 0, 0, 0)), (84, .iload 8, 86, (0, 0, 0, 0, 0, 0)), (86, .iload 7, 88, (0, 0, 0, 0, 0, 0)), (88, .if_icmp .ge 41, 91, (129, 0, 0, 0, 0, 0)), (91, .lload_n 3, 92, (0, 0, 0, 0, 0, 0)), (92, .aload_n 0, 93, (0, 0, 0, 0, 0, 0)), (93, .iload 8, 95, (0, 0, 0, 0, 0, 0)), (95, .iload 5, 97, (0, 0, 0, 0, 0, 0)), (97, .invokevirtual 101, 100, (0, 0, 0, 0, 0, 0)), (100, .ifCond .eq 20, 103, (120, 0, 0, 0, 0, 0)), (103, .aload_n 0, 104, (0, 0, 0, 0, 0, 0)), (104, .getfield 20, 107, (0, 9, 3, 0, 0, 0)), (107, .iload 5, 109, (0, 0, 0, 0, 0, 0)), (109, .iconst 1, 110, (0, 0, 0, 0, 1, 0)), (110, .iload 8, 112, (0, 0, 0, 0, 0, 0)), (112, .ishl, 113, (0, 0, 0, 0, 0, 0)), (113, .iconst (-1), 114, (0, 0, 0, 0, (-1), 0)), (114, .ixor, 115, (0, 0, 0, 0, 0, 0)), (115, .iand, 116, (0, 0, 0, 0, 0, 0)), (116, .laload, 117, (2, 1, 0, 1, 0, 0)), (117, .goto 4, 120, (121, 0, 0, 0, 0, 0)), (120, .lconst 0, 121, (0, 0, 0, 0, 0, 0)), (121, .ladd, 122, (0, 0, 0, 0, 0, 0)), (122, .lstore_n 3, 123, (0, 0, 0, 0, 0, 0)), (123, .iinc 8 1, 126, (0, 0, 0, 0, 1, 0)), (126, .goto (-42), 129, (84, 0, 0, 0, 0, 0)), (129, .iload 5, 131, (0, 0, 0, 0, 0, 0)), (131, .iconst 1, 132, (0, 0, 0, 0, 1, 0)), (132, .iload 7, 134, (0, 0, 0, 0, 0, 0)), (134, .ishl, 135, (0, 0, 0, 0, 0, 0)), (135, .iconst (-1), 136, (0, 0, 0, 0, (-1), 0)), (136, .ixor, 137, (0, 0, 0, 0, 0, 0)), (137, .iand, 138, (0, 0, 0, 0, 0, 0)), (138, .istore 5, 140, (0, 0, 0, 0, 0, 0)), (140, .iinc 6 1, 143, (0, 0, 0, 0, 1, 0)), (143, .goto (-124), 146, (19, 0, 0, 0, 0, 0)), (146, .lload_n 3, 147, (0, 0, 0, 0, 0, 0)), (147, .lreturn, 148, (0, 0, 0, 0, 0, 0))]
theorem okX9_rank : zv_ok 9 cX9_rank RX9 zt vwCl tbX9_rank = true := by decide +kernel
theorem dzX9_rank_5 : decode cX9_rank 5 = .ok (.invokevirtual 96, 3) := by decide +kernel
theorem dzX9_rank_11 : decode cX9_rank 11 = .ok (.invokevirtual 61, 3) := by decide +kernel
theorem dzX9_rank_56 : decode cX9_rank 56 = .ok (.lreturn, 1) := by decide +kernel
theorem dzX9_rank_71 : decode cX9_rank 71 = .ok (.invokevirtual 101, 3) := by decide +kernel
theorem dzX9_rank_80 : decode cX9_rank 80 = .ok (.lreturn, 1) := by decide +kernel
theorem dzX9_rank_97 : decode cX9_rank 97 = .ok (.invokevirtual 101, 3) := by decide +kernel
theorem dzX9_rank_147 : decode cX9_rank 147 = .ok (.lreturn, 1) := by decide +kernel
set_option maxRecDepth 100000 in
theorem inX9_rank : Jvm.Cond.code yX9_rank cX9_rank 9 ((some .long)) ∈ zt := List.mem_filter.mpr ⟨List.mem_append_right _ (List.mem_of_getElem? (i := 737) rfl), rfl⟩
def tbX9_above : List zv_I := [(0, .iconst 0, 1, (0, 0, 0, 0, 0, 0)), (1, .istore_n 2, 2, (0, 0, 0, 0, 0, 0)), (2, .iconst 0, 3, (0, 0, 0, 0, 0, 0)), (3, .istore_n 3, 4, (0, 0, 0, 0, 0, 0)), (4, .iload_n 3, 5, (0, 0, 0, 0, 0, 0)), (5, .aload_n 0, 6, (0, 0, 0, 0, 0, 0)), (6, .getfield 7, 9, (0, 9, 0, 0, 0, 0)), (9, .if_icmp .ge 82, 12, (91, 0, 0, 0, 0, 0)), (12, .iconst 1, 13, (0, 0, 0, 0, 1, 0)), (13, .istore 4, 15, (0, 0, 0, 0, 0, 0)), (15, .iconst 0, 16, (0, 0, 0, 0, 0, 0)), (16, .istore 5, 18, (0, 0, 0, 0, 0, 0)), (18, .iload 5, 20, (0, 0, 0, 0, 0, 0)), (20, .aload_n 0, 21, (0, 0, 0, 0, 0, 0)), (21, .getfield 7, 24, (0, 9, 0, 0, 0, 0)), (24, .if_icmp .ge 46, 27, (70, 0, 0, 0, 0, 0)), (27, .iload 4, 29, (0, 0, 0, 0, 0, 0)), (29, .ifCond .eq 32, 32, (61, 0, 0, 0, 0, 0)), (32, .iload_n 1, 33, (0, 0, 0, 0, 0, 0)), (33, .iload 5, 35, (0, 0, 0, 0, 0, 0)), (35, .invokestatic 58, 38, (0, 0, 0, 0, 0, 0)), (38, .ifCond .eq 19, 41, (57, 0, 0, 0, 0, 0)), (41, .iload 5, 43, (0, 0, 0, 0, 0, 0)), (43, .iload_n 3, 44, (0, 0, 0, 0, 0, 0)), (44, .if_icmp .eq 13, 47, (57, 0, 0, 0, 0, 0)), (47, .aload_n 0, 48, (0, 0, 0, 0, 0, 0)), (48, .iload 5, 50, (0, 0, 0, 0, 0, 0)), (50, .iload_n 3, 51, (0, 0, 0, 0, 0, 0)), (51, .invokevirtual 46, 54, (0, 0, 0, 0, 0, 0)), (54, .ifCond .eq 7, 57, (61, 0, 0, 0, 0, 0)), (57, .iconst 1, 58, (0, 0, 0, 0, 1, 0)), (58, .goto 4, 61, (62, 0, 0, 0, 0, 0)), (61, .iconst 0, 62, (0, 0, 0, 0, 0, 0)), (62, .istore 4, 64, (0, 0, 0, 0, 0, 0)), (64, .iinc 5 1, 67, (0, 0, 0, 0, 1, 0)), (67, .goto (-49), 70, (18, 0, 0, 0, 0, 0)), (70, .iload_n 2, 71, (0, 0, 0, 0, 0, 0)), (71, .iload 4, 73, (0, 0, 0, 0, 0, 0)), (73, .ifCond .eq 9, 76, (82, 0, 0, 0, 0, 0)), (76, .iconst 1, 77, (0, 0, 0, 0, 1, 0)), (77, .iload_n 3, 78, (0, 0, 0, 0, 0, 0)), (78, .ishl, 79, (0, 0, 0, 0, 0, 0)), (79, .goto 4, 82, (83, 0, 0, 0, 0, 0)), (82, .iconst 0, 83, (0, 0, 0, 0, 0, 0)), (83, .ior, 84, (0, 0, 0, 0, 0, 0)), (84, .istore_n 2, 85, (0, 0, 0, 0, 0, 0)), (85, .iinc 3 1, 88, (0, 0, 0, 0, 1, 0)), (88, .goto (-84), 91, (4, 0, 0, 0, 0, 0)), (91, .iload_n 2, 92, (0, 0, 0, 0, 0, 0)), (92, .ireturn, 93, (0, 0, 0, 0, 0, 0))]
theorem okX9_above : zv_ok 6 cX9_above RX9 zt vwCl tbX9_above = true := by decide +kernel
theorem dzX9_above_35 : decode cX9_above 35 = .ok (.invokestatic 58, 3) := by decide +kernel
theorem dzX9_above_51 : decode cX9_above 51 = .ok (.invokevirtual 46, 3) := by decide +kernel
theorem dzX9_above_92 : decode cX9_above 92 = .ok (.ireturn, 1) := by decide +kernel
set_option maxRecDepth 100000 in
theorem inX9_above : Jvm.Cond.code yX9_above cX9_above 6 ((some .int)) ∈ zt := List.mem_filter.mpr ⟨List.mem_append_right _ (List.mem_of_getElem? (i := 692) rfl), rfl⟩
def tbX9_below : List zv_I := [(0, .iconst 0, 1, (0, 0, 0, 0, 0, 0)), (1, .istore_n 2, 2, (0, 0, 0, 0, 0, 0)), (2, .iconst 0, 3, (0, 0, 0, 0, 0, 0)), (3, .istore_n 3, 4, (0, 0, 0, 0, 0, 0)), (4, .iload_n 3, 5, (0, 0, 0, 0, 0, 0)), (5, .aload_n 0, 6, (0, 0, 0, 0, 0, 0)), (6, .getfield 7, 9, (0, 9, 0, 0, 0, 0)), (9, .if_icmp .ge 82, 12, (91, 0, 0, 0, 0, 0)), (12, .iconst 1, 13, (0, 0, 0, 0, 1, 0)), (13, .istore 4, 15, (0, 0, 0, 0, 0, 0)), (15, .iconst 0, 16, (0, 0, 0, 0, 0, 0)), (16, .istore 5, 18, (0, 0, 0, 0, 0, 0)), (18, .iload 5, 20, (0, 0, 0, 0, 0, 0)), (20, .aload_n 0, 21, (0, 0, 0, 0, 0, 0)), (21, .getfield 7, 24, (0, 9, 0, 0, 0, 0)), (24, .if_icmp .ge 46, 27, (70, 0, 0, 0, 0, 0)), (27, .iload 4, 29, (0, 0, 0, 0, 0, 0)), (29, .ifCond .eq 32, 32, (61, 0, 0, 0, 0, 0)), (32, .iload_n 1, 33, (0, 0, 0, 0, 0, 0)), (33, .iload 5, 35, (0, 0, 0, 0, 0, 0)), (35, .invokestatic 58, 38, (0, 0, 0, 0, 0, 0)), (38, .ifCond .eq 19, 41, (57, 0, 0, 0, 0, 0)), (41, .iload 5, 43, (0, 0, 0, 0, 0, 0)), (43, .iload_n 3, 44, (0, 0, 0, 0, 0, 0)), (44, .if_icmp .eq 13, 47, (57, 0, 0, 0, 0, 0)), (47, .aload_n 0, 48, (0, 0, 0, 0, 0, 0)), (48, .iload_n 3, 49, (0, 0, 0, 0, 0, 0)), (49, .iload 5, 51, (0, 0, 0, 0, 0, 0)), (51, .invokevirtual 46, 54, (0, 0, 0, 0, 0, 0)), (54, .ifCond .eq 7, 57, (61, 0, 0, 0, 0, 0)), (57, .iconst 1, 58, (0, 0, 0, 0, 1, 0)), (58, .goto 4, 61, (62, 0, 0, 0, 0, 0)), (61, .iconst 0, 62, (0, 0, 0, 0, 0, 0)), (62, .istore 4, 64, (0, 0, 0, 0, 0, 0)), (64, .iinc 5 1, 67, (0, 0, 0, 0, 1, 0)), (67, .goto (-49), 70, (18, 0, 0, 0, 0, 0)), (70, .iload_n 2, 71, (0, 0, 0, 0, 0, 0)), (71, .iload 4, 73, (0, 0, 0, 0, 0, 0)), (73, .ifCond .eq 9, 76, (82, 0, 0, 0, 0, 0)), (76, .iconst 1, 77, (0, 0, 0, 0, 1, 0)), (77, .iload_n 3, 78, (0, 0, 0, 0, 0, 0)), (78, .ishl, 79, (0, 0, 0, 0, 0, 0)), (79, .goto 4, 82, (83, 0, 0, 0, 0, 0)), (82, .iconst 0, 83, (0, 0, 0, 0, 0, 0)), (83, .ior, 84, (0, 0, 0, 0, 0, 0)), (84, .istore_n 2, 85, (0, 0, 0, 0, 0, 0)), (85, .iinc 3 1, 88, (0, 0, 0, 0, 1, 0)), (88, .goto (-84), 91, (4, 0, 0, 0, 0, 0)), (91, .iload_n 2, 92, (0, 0, 0, 0, 0, 0)), (92, .ireturn, 93, (0, 0, 0, 0, 0, 0))]
theorem okX9_below : zv_ok 6 cX9_below RX9 zt vwCl tbX9_below = true := by decide +kernel
theorem dzX9_below_35 : decode cX9_below 35 = .ok (.invokestatic 58, 3) := by decide +kernel
theorem dzX9_below_51 : decode cX9_below 51 = .ok (.invokevirtual 46, 3) := by decide +kernel
theorem dzX9_below_92 : decode cX9_below 92 = .ok (.ireturn, 1) := by decide +kernel
set_option maxRecDepth 100000 in
theorem inX9_below : Jvm.Cond.code yX9_below cX9_below 6 ((some .int)) ∈ zt := List.mem_filter.mpr ⟨List.mem_append_right _ (List.mem_of_getElem? (i := 696) rfl), rfl⟩
def tbX9_findCuts : List zv_I := [(0, .aload_n 0, 1, (0, 0, 0, 0, 0, 0)), (1, .iconst 0, 2, (0, 0, 0, 0, 0, 0)), (2, .putfield 90, 5, (0, 9, 5, 0, 0, 0)), (5, .iconst 0, 6, (0, 0, 0, 0, 0, 0)), (6, .istore_n 1, 7, (0, 0, 0, 0, 0, 0)), (7, .iload_n 1, 8, (0, 0, 0, 0, 0, 0)), (8, .aload_n 0, 9, (0, 0, 0, 0, 0, 0)), (9, .invokevirtual 61, 12, (0, 0, 0, 0, 0, 0)), (12, .if_icmp .gt 42, 15, (54, 0, 0, 0, 0, 0)), (15, .aload_n 0, 16, (0, 0, 0, 0, 0, 0)), (16, .aload_n 0, 17, (0, 0, 0, 0, 0, 0)), (17, .iload_n 1, 18, (0, 0, 0, 0, 0, 0)), (18, .invokevirtual 106, 21, (0, 0, 0, 0, 0, 0)), (21, .invokevirtual 109, 24, (0, 0, 0, 0, 0, 0)), (24, .iload_n 1, 25, (0, 0, 0, 0, 0, 0)), (25, .if_icmp .ne 23, 28, (48, 0, 0, 0, 0, 0)), (28, .aload_n 0, 29, (0, 0, 0, 0, 0, 0)), (29, .getfield 24, 32, (0, 9, 4, 0, 0, 0)), (32, .aload_n 0, 33, (0, 0, 0, 0, 0, 0)), (33, .getfield 90, 36, (0, 9, 5, 0, 0, 0)), (36, .iload_n 1, 37, (0, 0, 0, 0, 0, 0)), (37, .iastore, 38, (2, 0, 0, 0, 0, 0)), (38, .aload_n 0, 39, (0, 0, 0, 0, 0, 0)), (39, .dup, 40, (0, 0, 0, 0, 0, 0)), (40, .getfield 90, 43, (0, 9, 5, 0, 0, 0)), (43, .iconst 1, 44, (0, 0, 0, 0, 1, 0)), (44, .iadd, 45, (0, 0, 0, 0, 0, 0)), (45, .putfield 90, 48, (0, 9, 5, 0, 0, 0)), (48, .iinc 1 1, 51, (0, 0, 0, 0, 1, 0)), (51, .goto (-44), 54, (7, 0, 0, 0, 0, 0)), (54, .return_, 55, (0, 0, 0, 0, 0, 0))]
theorem okX9_findCuts : zv_ok 2 cX9_findCuts RX9 zt vwCl tbX9_findCuts = true := by decide +kernel
theorem dzX9_findCuts_9 : decode cX9_findCuts 9 = .ok (.invokevirtual 61, 3) := by decide +kernel
theorem dzX9_findCuts_18 : decode cX9_findCuts 18 = .ok (.invokevirtual 106, 3) := by decide +kernel
theorem dzX9_findCuts_21 : decode cX9_findCuts 21 = .ok (.invokevirtual 109, 3) := by decide +kernel
theorem dzX9_findCuts_54 : decode cX9_findCuts 54 = .ok (.return_, 1) := by decide +kernel
set_option maxRecDepth 100000 in
theorem inX9_findCuts : Jvm.Cond.code yX9_findCuts cX9_findCuts 2 none ∈ zt := List.mem_filter.mpr ⟨List.mem_append_right _ (List.mem_of_getElem? (i := 688) rfl), rfl⟩
def tbX9_cut : List zv_I := [(0, .aload_n 0, 1, (0, 0, 0, 0, 0, 0)), (1, .invokevirtual 87, 4, (0, 0, 0, 0, 0, 0)), (4, .iload_n 1, 5, (0, 0, 0, 0, 0, 0)), (5, .ifCond .lt 11, 8, (16, 0, 0, 0, 0, 0)), (8, .iload_n 1, 9, (0, 0, 0, 0, 0, 0)), (9, .aload_n 0, 10, (0, 0, 0, 0, 0, 0)), (10, .getfield 90, 13, (0, 9, 5, 0, 0, 0)), (13, .if_icmp .lt 7, 16, (20, 0, 0, 0, 0, 0)), (16, .iconst (-1), 17, (0, 0, 0, 0, (-1), 0)), (17, .goto 9, 20, (26, 0, 0, 0, 0, 0)), (20, .aload_n 0, 21, (0, 0, 0, 0, 0, 0)), (21, .getfield 24, 24, (0, 9, 4, 0, 0, 0)), (24, .iload_n 1, 25, (0, 0, 0, 0, 0, 0)), (25, .iaload, 26, (2, 0, 0, 0, 0, 0)), (26, .ireturn, 27, (0, 0, 0, 0, 0, 0))]
theorem okX9_cut : zv_ok 2 cX9_cut RX9 zt vwCl tbX9_cut = true := by decide +kernel
theorem dzX9_cut_1 : decode cX9_cut 1 = .ok (.invokevirtual 87, 3) := by decide +kernel
theorem dzX9_cut_26 : decode cX9_cut 26 = .ok (.ireturn, 1) := by decide +kernel
set_option maxRecDepth 100000 in
theorem inX9_cut : Jvm.Cond.code yX9_cut cX9_cut 2 ((some .int)) ∈ zt := List.mem_filter.mpr ⟨List.mem_append_right _ (List.mem_of_getElem? (i := 742) rfl), rfl⟩
def tbX9_extreme : List zv_I := [(0, .iconst (-1), 1, (0, 0, 0, 0, (-1), 0)), (1, .istore_n 3, 2, (0, 0, 0, 0, 0, 0)), (2, .iconst 0, 3, (0, 0, 0, 0, 0, 0)), (3, .istore 4, 5, (0, 0, 0, 0, 0, 0)), (5, .iload 4, 7, (0, 0, 0, 0, 0, 0)), (7, .aload_n 0, 8, (0, 0, 0, 0, 0, 0)), (8, .getfield 90, 11, (0, 9, 5, 0, 0, 0)), (11, .if_icmp .ge 129, 14, (140, 0, 0, 0, 0, 0)), (14, .iload_n 2, 15, (0, 0, 0, 0, 0, 0)), (15, .ifCond .eq 24, 18, (39, 0, 0, 0, 0, 0)), (18, .aload_n 0, 19, (0, 0, 0, 0, 0, 0)), (19, .getfield 24, 22, (0, 9, 4, 0, 0, 0)), (22, .iload 4, 24, (0, 0, 0, 0, 0, 0)), (24, .iaload, 25, (1, 0, 0, 0, 0, 0)), (25, .iload_n 1, 26, (0, 0, 0, 0, 0, 0)), (26, .iand, 27, (0, 0, 0, 0, 0, 0)), (27, .iload_n 1, 28, (0, 0, 0, 0, 0, 0)), (28, .if_icmp .ne 7, 31, (35, 0, 0, 0, 0, 0)), (31, .iconst 1, 32, (0, 0, 0, 0, 1, 0)), (32, .goto 26, 35, (58, 0, 0, 0, 0, 0)), (35, .iconst 0, 36, (0, 0, 0, 0, 0, 0)), (36, .goto 22, 39, (58, 0, 0, 0, 0, 0)), (39, .aload_n 0, 40, (0, 0, 0, 0, 0, 0)), (40, .getfield 24, 43, (0, 9, 4, 0, 0, 0)), (43, .iload 4, 45, (0, 0, 0, 0, 0, 0)), (45, .iaload, 46, (1, 0, 0, 0, 0, 0)), (46, .iload_n 1, 47, (0, 0, 0, 0, 0, 0)), (47, .iconst (-1), 48, (0, 0, 0, 0, (-1), 0)), (48, .ixor, 49, (0, 0, 0, 0, 0, 0)), (49, .iand, 50, (0, 0, 0, 0, 0, 0)), (50, .ifCond .ne 7, 53, (57, 0, 0, 0, 0, 0)), (53, .iconst 1, 54, (0, 0, 0, 0, 1, 0)), (54, .goto 4, 57, (58, 0, 0, 0, 0, 0)), (57, .iconst 0, 58, (0, 0, 0, 0, 0, 0)), (58, .istore 5, 60, (0, 0, 0, 0, 0, 0)), (60, .iload_n 3, 61, (0, 0, 0, 0, 0, 0)), (61, .iconst (-1), 62, (0, 0, 0, 0, (-1), 0)), (62, .if_icmp .eq 48, 65, (110, 0, 0, 0, 0, 0)), (65, .iload_n 2, 66, (0, 0, 0, 0, 0, 0)), (66, .ifCond .eq 25, 69, (91, 0, 0, 0, 0, 0)), (69, .aload_n 0, 70, (0, 0, 0, 0, 0, 0)), (70, .getfield 24, 73, (0, 9, 4, 0, 0, 0)), (73, .iload 4, 75, (0, 0, 0, 0, 0, 0)), (75, .iaload, 76, (1, 0, 0, 0, 0, 0)), (76, .aload_n 0, 77, (0, 0, 0, 0, 0, 0)), (77, .getfield 24, 80, (0, 9, 4, 0, 0, 0)), (80, .iload_n 3, 81, (0, 0, 0, 0, 0, 0)), (81, .iaload, 82, (1, 0, 0, 0, 0, 0)), (82, .iconst (-1), 83, (0, 0, 0, 0, (-1), 0)), (83, .ixor, 84, (0, 0, 0, 0, 0, 0)), (84, .iand, 85, (0, 0, 0, 0, 0, 0)), (85, .ifCond .ne 29, 88, (114, 0, 0, 0, 0, 0)), (88, .goto 22, 91, (110, 0, 0, 0, 0, 0)), (91, .aload_n 0, 92, (0, 0, 0, 0, 0, 0)), (92, .getfield 24, 95, (0, 9, 4, 0, 0, 0)), (95, .iload_n 3, 96, (0, 0, 0, 0, 0, 0)), (96, .iaload, 97, (1, 0, 0, 0, 0, 0)), (97, .aload_n 0, 98, (0, 0, 0, 0, 0, 0)), (98, .getfield 24, 101, (0, 9, 4, 0, 0, 0)), (101, .iload 4, 103, (0, 0, 0, 0, 0, 0)), (103, .iaload, 104, (1, 0, 0, 0, 0, 0)), (104, .iconst (-1), 105, (0, 0, 0, 0, (-1), 0)), (105, .ixor, 106, (0, 0, 0, 0, 0, 0)), (106, .iand, 107, (0, 0, 0, 0, 0, 0)), (107, .ifCond .ne 7, 110, (114, 0, 0, 0, 0, 0)), (110, .iconst 1, 111, (0, 0, 0, 0, 1, 0)), (111, .goto 4, 114, (115, 0, 0, 0, 0, 0)), (114, .iconst 0, 115, (0, 0, 0, 0, 0, 0)), (115, .istore 6, 117, (0, 0, 0, 0, 0, 0)), (117, .iload 5, 119, (0, 0, 0, 0, 0, 0)), (119, .ifCond .eq 13, 122, (132, 0, 0, 0, 0, 0)), (122, .iload 6, 124, (0, 0, 0, 0, 0, 0)), (124, .ifCond .eq 8, 127, (132, 0, 0, 0, 0, 0)), (127, .iload 4, 129, (0, 0, 0, 0, 0, 0)), (129, .goto 4, 132, (133, 0, 0, 0, 0, 0)), (132, .iload_n 3, 133, (0, 0, 0, 0, 0, 0)), (133, .istore_n 3, 134, (0, 0, 0, 0, 0, 0)), (134, .iinc 4 1, 137, (0, 0, 0, 0, 1, 0)), (137, .goto (-132), 140, (5, 0, 0, 0, 0, 0)), (140, .iload_n 3, 141, (0, 0, 0, 0, 0, 0)), (141, .ireturn, 142, (0, 0, 0, 0, 0, 0))]
theorem okX9_extreme : zv_ok 7 cX9_extreme RX9 zt vwCl tbX9_extreme = true := by decide +kernel
theorem dzX9_extreme_141 : decode cX9_extreme 141 = .ok (.ireturn, 1) := by decide +kernel
set_option maxRecDepth 100000 in
theorem inX9_extreme : Jvm.Cond.code yX9_extreme cX9_extreme 7 ((some .int)) ∈ zt := List.mem_filter.mpr ⟨List.mem_append_right _ (List.mem_of_getElem? (i := 750) rfl), rfl⟩
def tbX9_least : List zv_I := [(0, .aload_n 0, 1, (0, 0, 0, 0, 0, 0)), (1, .invokevirtual 87, 4, (0, 0, 0, 0, 0, 0)), (4, .iload_n 1, 5, (0, 0, 0, 0, 0, 0)), (5, .ifCond .lt 11, 8, (16, 0, 0, 0, 0, 0)), (8, .iload_n 1, 9, (0, 0, 0, 0, 0, 0)), (9, .aload_n 0, 10, (0, 0, 0, 0, 0, 0)), (10, .invokevirtual 61, 13, (0, 0, 0, 0, 0, 0)), (13, .if_icmp .le 7, 16, (20, 0, 0, 0, 0, 0)), (16, .iconst (-1), 17, (0, 0, 0, 0, (-1), 0)), (17, .goto 9, 20, (26, 0, 0, 0, 0, 0)), (20, .aload_n 0, 21, (0, 0, 0, 0, 0, 0)), (21, .iload_n 1, 22, (0, 0, 0, 0, 0, 0)), (22, .iconst 1, 23, (0, 0, 0, 0, 1, 0)), (23, .invokevirtual 112, 26, (0, 0, 0, 0, 0, 0)), (26, .ireturn, 27, (0, 0, 0, 0, 0, 0))]
theorem okX9_least : zv_ok 2 cX9_least RX9 zt vwCl tbX9_least = true := by decide +kernel
theorem dzX9_least_1 : decode cX9_least 1 = .ok (.invokevirtual 87, 3) := by decide +kernel
theorem dzX9_least_10 : decode cX9_least 10 = .ok (.invokevirtual 61, 3) := by decide +kernel
theorem dzX9_least_23 : decode cX9_least 23 = .ok (.invokevirtual 112, 3) := by decide +kernel
theorem dzX9_least_26 : decode cX9_least 26 = .ok (.ireturn, 1) := by decide +kernel
set_option maxRecDepth 100000 in
theorem inX9_least : Jvm.Cond.code yX9_least cX9_least 2 ((some .int)) ∈ zt := List.mem_filter.mpr ⟨List.mem_append_right _ (List.mem_of_getElem? (i := 746) rfl), rfl⟩
def tbX9_joined : List zv_I := [(0, .aload_n 0, 1, (0, 0, 0, 0, 0, 0)), (1, .invokevirtual 87, 4, (0, 0, 0, 0, 0, 0)), (4, .iload_n 1, 5, (0, 0, 0, 0, 0, 0)), (5, .ifCond .lt 23, 8, (28, 0, 0, 0, 0, 0)), (8, .iload_n 1, 9, (0, 0, 0, 0, 0, 0)), (9, .aload_n 0, 10, (0, 0, 0, 0, 0, 0)), (10, .getfield 90, 13, (0, 9, 5, 0, 0, 0)), (13, .if_icmp .ge 15, 16, (28, 0, 0, 0, 0, 0)), (16, .iload_n 2, 17, (0, 0, 0, 0, 0, 0)), (17, .ifCond .lt 11, 20, (28, 0, 0, 0, 0, 0)), (20, .iload_n 2, 21, (0, 0, 0, 0, 0, 0)), (21, .aload_n 0, 22, (0, 0, 0, 0, 0, 0)), (22, .getfield 90, 25, (0, 9, 5, 0, 0, 0)), (25, .if_icmp .lt 5, 28, (30, 0, 0, 0, 0, 0)), (28, .iconst (-1), 29, (0, 0, 0, 0, (-1), 0)), (29, .ireturn, 30, (0, 0, 0, 0, 0, 0)), (30, .iload_n 3, 31, (0, 0, 0, 0, 0, 0)), (31, .ifCond .eq 24, 34, (55, 0, 0, 0, 0, 0)), (34, .aload_n 0, 35, (0, 0, 0, 0, 0, 0)), (35, .aload_n 0, 36, (0, 0, 0, 0, 0, 0)), (36, .getfield 24, 39, (0, 9, 4, 0, 0, 0)), (39, .iload_n 1, 40, (0, 0, 0, 0, 0, 0)), (40, .iaload, 41, (2, 0, 0, 0, 0, 0)), (41, .aload_n 0, 42, (0, 0, 0, 0, 0, 0)), (42, .getfield 24, 45, (0, 9, 4, 0, 0, 0)), (45, .iload_n 2, 46, (0, 0, 0, 0, 0, 0)), (46, .iaload, 47, (2, 0, 0, 0, 0, 0)), (47, .iand, 48, (0, 0, 0, 0, 0, 0)), (48, .iconst 0, 49, (0, 0, 0, 0, 0, 0)), (49, .invokevirtual 112, 52, (0, 0, 0, 0, 0, 0)), (52, .goto 21, 55, (73, 0, 0, 0, 0, 0)), (55, .aload_n 0, 56, (0, 0, 0, 0, 0, 0)), (56, .aload_n 0, 57, (0, 0, 0, 0, 0, 0)), (57, .getfield 24, 60, (0, 9, 4, 0, 0, 0)), (60, .iload_n 1, 61, (0, 0, 0, 0, 0, 0)), (61, .iaload, 62, (2, 0, 0, 0, 0, 0)), (62, .aload_n 0, 63, (0, 0, 0, 0, 0, 0)), (63, .getfield 24, 66, (0, 9, 4, 0, 0, 0)), (66, .iload_n 2, 67, (0, 0, 0, 0, 0, 0)), (67, .iaload, 68, (2, 0, 0, 0, 0, 0)), (68, .ior, 69, (0, 0, 0, 0, 0, 0)), (69, .iconst 1, 70, (0, 0, 0, 0, 1, 0)), (70, .invokevirtual 112, 73, (0, 0, 0, 0, 0, 0)), (73, .ireturn, 74, (0, 0, 0, 0, 0, 0))]
theorem okX9_joined : zv_ok 4 cX9_joined RX9 zt vwCl tbX9_joined = true := by decide +kernel
theorem dzX9_joined_1 : decode cX9_joined 1 = .ok (.invokevirtual 87, 3) := by decide +kernel
theorem dzX9_joined_29 : decode cX9_joined 29 = .ok (.ireturn, 1) := by decide +kernel
theorem dzX9_joined_49 : decode cX9_joined 49 = .ok (.invokevirtual 112, 3) := by decide +kernel
theorem dzX9_joined_70 : decode cX9_joined 70 = .ok (.invokevirtual 112, 3) := by decide +kernel
theorem dzX9_joined_73 : decode cX9_joined 73 = .ok (.ireturn, 1) := by decide +kernel
set_option maxRecDepth 100000 in
theorem inX9_joined : Jvm.Cond.code yX9_joined cX9_joined 4 ((some .int)) ∈ zt := List.mem_filter.mpr ⟨List.mem_append_right _ (List.mem_of_getElem? (i := 754) rfl), rfl⟩
def tbX9_mu : List zv_I := [(0, .aload_n 0, 1, (0, 0, 0, 0, 0, 0)), (1, .iload_n 1, 2, (0, 0, 0, 0, 0, 0)), (2, .invokevirtual 42, 5, (0, 0, 0, 0, 0, 0)), (5, .ifCond .eq 25, 8, (30, 0, 0, 0, 0, 0)), (8, .aload_n 0, 9, (0, 0, 0, 0, 0, 0)), (9, .iload_n 2, 10, (0, 0, 0, 0, 0, 0)), (10, .invokevirtual 42, 13, (0, 0, 0, 0, 0, 0)), (13, .ifCond .eq 17, 16, (30, 0, 0, 0, 0, 0)), (16, .iload_n 1, 17, (0, 0, 0, 0, 0, 0)), (17, .iload_n 2, 18, (0, 0, 0, 0, 0, 0)), (18, .if_icmp .eq 14, 21, (32, 0, 0, 0, 0, 0)), (21, .aload_n 0, 22, (0, 0, 0, 0, 0, 0)), (22, .iload_n 1, 23, (0, 0, 0, 0, 0, 0)), (23, .iload_n 2, 24, (0, 0, 0, 0, 0, 0)), (24, .invokevirtual 46, 27, (0, 0, 0, 0, 0, 0)), (27, .ifCond .ne 5, 30, (32, 0, 0, 0, 0, 0)), (30, .iconst 0, 31, (0, 0, 0, 0, 0, 0)), (31, .ireturn, 32, (0, 0, 0, 0, 0, 0)), (32, .iconst 0, 33, (0, 0, 0, 0, 0, 0)), (33, .istore_n 3, 34, (0, 0, 0, 0, 0, 0)), (34, .iload_n 3, 35, (0, 0, 0, 0, 0, 0)), (35, .aload_n 0, 36, (0, 0, 0, 0, 0, 0)), (36, .getfield 7, 39, (0, 9, 0, 0, 0, 0)), (39, .if_icmp .gt 163, 42, (202, 0, 0, 0, 0, 0)), (42, .iconst 0, 43, (0, 0, 0, 0, 0, 0)), (43, .istore 4, 45, (0, 0, 0, 0, 0, 0)), (45, .iload 4, 47, (0, 0, 0, 0, 0, 0)), (47, .aload_n 0, 48, (0, 0, 0, 0, 0, 0)), (48, .getfield 7, 51, (0, 9, 0, 0, 0, 0)), (51, .if_icmp .ge 145, 54, (196, 0, 0, 0, 0, 0)), (54, .iconst 0, 55, (0, 0, 0, 0, 0, 0)), (55, .istore 5, 57, (0, 0, 0, 0, 0, 0)), (57, .iload 4, 59, (0, 0, 0, 0, 0, 0)), (59, .iload_n 1, 60, (0, 0, 0, 0, 0, 0)), (60, .if_icmp .ne 7, 63, (67, 0, 0, 0, 0, 0)), (63, .iconst (-1), 64, (0, 0, 0, 0, (-1), 0)), (64, .goto 4, 67, (68, 0, 0, 0, 0, 0)), (67, .iconst 0, 68, (0, 0, 0, 0, 0, 0)), (68, .istore 6, 70, (0, 0, 0, 0, 0, 0)), (70, .iconst 0, 71, (0, 0, 0, 0, 0, 0)), (71, .istore 7, 73, (0, 0, 0, 0, 0, 0)), (73, .iload 7, 75, (0, 0, 0, 0, 0, 0)), (75, .aload_n 0, 76, (0, 0, 0, 0, 0, 0)), (76, .getfield 7, 79, (0, 9, 0, 0, 0, 0)), (79, .if_icmp .ge 79, 82, (158, 0, 0, 0, 0, 0)), (82, .iload 7, 84, (0, 0, 0, 0, 0, 0)), (84, .iload_n 1, 85, (0, 0, 0, 0, 0, 0)), (85, .if_icmp .eq 13, 88, (98, 0, 0, 0, 0, 0)), (88, .aload_n 0, 89, (0, 0, 0, 0, 0, 0)), (89, .iload_n 1, 90, (0, 0, 0, 0, 0, 0)), (90, .iload 7, 92, (0, 0, 0, 0, 0, 0)), (92, .invokevirtual 46, 95, (0, 0, 0, 0, 0, 0)), (95, .ifCond .eq 18, 98, (113, 0, 0, 0, 0, 0)), (98, .aload_n 0, 99, (0, 0, 0, 0, 0, 0)), (99, .iload 7, 101, (0, 0, 0, 0, 0, 0)), (101, .iload 4, 103, (0, 0, 0, 0, 0, 0)), (103, .invokevirtual 46, 106, (0, 0, 0, 0, 0, 0)), (106, .ifCond .eq 7, 109, (113, 0, 0, 0, 0, 0)), (109, .iconst 1, 110, (0, 0, 0, 0, 1, 0)), (110, .goto 4, 113, (114, 0, 0, 0, 0, 0)), (113, .iconst 0, 114, (0, 0, 0, 0, 0, 0)), (114, .istore 8, 116, (0, 0, 0, 0, 0, 0)), (116, .iload 5, 118, (0, 0, 0, 0, 0, 0)), (118, .iload 8, 120, (0, 0, 0, 0, 0, 0)), (120, .ifCond .eq 7, 123, (127, 0, 0, 0, 0, 0)), (123, .iconst 1, 124, (0, 0, 0, 0, 1, 0)), (124, .goto 4, 127, (128, 0, 0, 0, 0, 0)), (127, .iconst 0, 128, (0, 0, 0, 0, 0, 0)), (128, .iadd, 129, (0, 0, 0, 0, 0, 0)), (129, .istore 5, 131, (0, 0, 0, 0, 0, 0)), (131, .iload 6, 133, (0, 0, 0, 0, 0, 0)), (133, .iload 8, 135, (0, 0, 0, 0, 0, 0)), (135, .ifCond .eq 13, 138, (148, 0, 0, 0, 0, 0)), (138, .aload_n 0, 139, (0, 0, 0, 0, 0, 0)), (139, .getfield 28, 142, (0, 9, 6, 0, 0, 0)), (142, .iload 7, 144, (0, 0, 0, 0, 0, 0)), (144, .iaload, 145, (2, 0, 0, 0, 0, 0)), (145, .goto 4, 148, (149, 0, 0, 0, 0, 0)), (148, .iconst 0, 149, (0, 0, 0, 0, 0, 0)), (149, .iadd, 150, (0, 0, 0, 0, 0, 0)), (150, .istore 6, 152, (0, 0, 0, 0, 0, 0)), (152, .iinc 7 1, 155, (0, 0, 0, 0, 1, 0)), (155, .goto (-82), 158, (73, 0, 0, 0, 0, 0)), (158, .iload 4, 160, (0, 0, 0, 0, 0, 0)), (160, .iload_n 1, 161, (0, 0, 0, 0, 0, 0)), (161, .if_icmp .eq 13, 164, (174, 0, 0, 0, 0, 0)), (164, .aload_n 0, 165, (0, 0, 0, 0, 0, 0)), (165, .iload_n 1, 166, (0, 0, 0, 0, 0, 0)), (166, .iload 4, 168, (0, 0, 0, 0, 0, 0)), (168, .invokevirtual 46, 171, (0, 0, 0, 0, 0, 0)), (171, .ifCond .eq 19, 174, (190, 0, 0, 0, 0, 0)), (174, .iload 5, 176, (0, 0, 0, 0, 0, 0)), (176, .iload_n 3, 177, (0, 0, 0, 0, 0, 0)), (177, .if_icmp .ne 13, 180, (190, 0, 0, 0, 0, 0)), (180, .aload_n 0, 181, (0, 0, 0, 0, 0, 0)), (181, .getfield 28, 184, (0, 9, 6, 0, 0, 0)), (184, .iload 4, 186, (0, 0, 0, 0, 0, 0)), (186, .iload 6, 188, (0, 0, 0, 0, 0, 0)), (188, .ineg, 189, (0, 0, 0, 0, 0, 0)), (189, .iastore, 190, (2, 0, 0, 0, 0, 0)), (190, .iinc 4 1, 193, (0, 0, 0, 0, 1, 0)), (193, .goto (-148), 196, (45, 0, 0, 0, 0, 0)), (196, .iinc 3 1, 199, (0, 0, 0, 0, 1, 0)), (199, .goto (-165), 202, (34, 0, 0, 0, 0, 0)), (202, .aload_n 0, 203, (0, 0, 0, 0, 0, 0)), (203, .getfield 28, 206, (0, 9, 6, 0, 0, 0)), (206, .iload_n 2, 207, (0, 0, 0, 0, 0, 0)), (207, .iaload, 208, (2, 0, 0, 0, 0, 0)), (208, .ireturn, 209, (0, 0, 0, 0, 0, 0))]
theorem okX9_mu : zv_ok 9 cX9_mu RX9 zt vwCl tbX9_mu = true := by decide +kernel
theorem dzX9_mu_2 : decode cX9_mu 2 = .ok (.invokevirtual 42, 3) := by decide +kernel
theorem dzX9_mu_10 : decode cX9_mu 10 = .ok (.invokevirtual 42, 3) := by decide +kernel
theorem dzX9_mu_24 : decode cX9_mu 24 = .ok (.invokevirtual 46, 3) := by decide +kernel
theorem dzX9_mu_31 : decode cX9_mu 31 = .ok (.ireturn, 1) := by decide +kernel
theorem dzX9_mu_92 : decode cX9_mu 92 = .ok (.invokevirtual 46, 3) := by decide +kernel
theorem dzX9_mu_103 : decode cX9_mu 103 = .ok (.invokevirtual 46, 3) := by decide +kernel
theorem dzX9_mu_168 : decode cX9_mu 168 = .ok (.invokevirtual 46, 3) := by decide +kernel
theorem dzX9_mu_208 : decode cX9_mu 208 = .ok (.ireturn, 1) := by decide +kernel
set_option maxRecDepth 100000 in
theorem inX9_mu : Jvm.Cond.code yX9_mu cX9_mu 9 ((some .int)) ∈ zt := List.mem_filter.mpr ⟨List.mem_append_right _ (List.mem_of_getElem? (i := 758) rfl), rfl⟩
def tbX9_muOfCuts : List zv_I := [(0, .aload_n 0, 1, (0, 0, 0, 0, 0, 0)), (1, .invokevirtual 87, 4, (0, 0, 0, 0, 0, 0)), (4, .iload_n 1, 5, (0, 0, 0, 0, 0, 0)), (5, .ifCond .lt 41, 8, (46, 0, 0, 0, 0, 0)), (8, .iload_n 1, 9, (0, 0, 0, 0, 0, 0)), (9, .aload_n 0, 10, (0, 0, 0, 0, 0, 0)), (10, .getfield 90, 13, (0, 9, 5, 0, 0, 0)), (13, .if_icmp .ge 33, 16, (46, 0, 0, 0, 0, 0)), (16, .iload_n 2, 17, (0, 0, 0, 0, 0, 0)), (17, .ifCond .lt 29, 20, (46, 0, 0, 0, 0, 0)), (20, .iload_n 2, 21, (0, 0, 0, 0, 0, 0)), (21, .aload_n 0, 22, (0, 0, 0, 0, 0, 0)), (22, .getfield 90, 25, (0, 9, 5, 0, 0, 0)), (25, .if_icmp .ge 21, 28, (46, 0, 0, 0, 0, 0)), (28, .aload_n 0, 29, (0, 0, 0, 0, 0, 0)), (29, .getfield 24, 32, (0, 9, 4, 0, 0, 0)), (32, .iload_n 1, 33, (0, 0, 0, 0, 0, 0)), (33, .iaload, 34, (2, 0, 0, 0, 0, 0)), (34, .aload_n 0, 35, (0, 0, 0, 0, 0, 0)), (35, .getfield 24, 38, (0, 9, 4, 0, 0, 0)), (38, .iload_n 2, 39, (0, 0, 0, 0, 0, 0)), (39, .iaload, 40, (2, 0, 0, 0, 0, 0)), (40, .iconst (-1), 41, (0, 0, 0, 0, (-1), 0)), (41, .ixor, 42, (0, 0, 0, 0, 0, 0)), (42, .iand, 43, (0, 0, 0, 0, 0, 0)), (43, .ifCond .eq 5, 46, (48, 0, 0, 0, 0, 0)), (46, .iconst 0, 47, (0, 0, 0, 0, 0, 0)), (47, .ireturn, 48, (0, 0, 0, 0, 0, 0)), (48, .iload_n 1, 49, (0, 0, 0, 0, 0, 0)), (49, .istore_n 3, 50, (0, 0, 0, 0, 0, 0)), (50, .iload_n 3, 51, (0, 0, 0, 0, 0, 0)), (51, .iload_n 2, 52, (0, 0, 0, 0, 0, 0)), (52, .if_icmp .gt 158, 55, (210, 0, 0, 0, 0, 0)), (55, .aload_n 0, 56, (0, 0, 0, 0, 0, 0)), (56, .getfield 24, 59, (0, 9, 4, 0, 0, 0)), (59, .iload_n 1, 60, (0, 0, 0, 0, 0, 0)), (60, .iaload, 61, (2, 0, 0, 0, 0, 0)), (61, .aload_n 0, 62, (0, 0, 0, 0, 0, 0)), (62, .getfield 24, 65, (0, 9, 4, 0, 0, 0)), (65, .iload_n 3, 66, (0, 0, 0, 0, 0, 0)), (66, .iaload, 67, (2, 0, 0, 0, 0, 0)), (67, .iconst (-1), 68, (0, 0, 0, 0, (-1), 0)), (68, .ixor, 69, (0, 0, 0, 0, 0, 0)), (69, .iand, 70, (0, 0, 0, 0, 0, 0)), (70, .ifCond .ne 25, 73, (95, 0, 0, 0, 0, 0)), (73, .aload_n 0, 74, (0, 0, 0, 0, 0, 0)), (74, .getfield 24, 77, (0, 9, 4, 0, 0, 0)), (77, .iload_n 3, 78, (0, 0, 0, 0, 0, 0)), (78, .iaload, 79, (2, 0, 0, 0, 0, 0)), (79, .aload_n 0, 80, (0, 0, 0, 0, 0, 0)), (80, .getfield 24, 83, (0, 9, 4, 0, 0, 0)), (83, .iload_n 2, 84, (0, 0, 0, 0, 0, 0)), (84, .iaload, 85, (2, 0, 0, 0, 0, 0)), (85, .iconst (-1), 86, (0, 0, 0, 0, (-1), 0)), (86, .ixor, 87, (0, 0, 0, 0, 0, 0)), (87, .iand, 88, (0, 0, 0, 0, 0, 0)), (88, .ifCond .ne 7, 91, (95, 0, 0, 0, 0, 0)), (91, .iconst 1, 92, (0, 0, 0, 0, 1, 0)), (92, .goto 4, 95, (96, 0, 0, 0, 0, 0)), (95, .iconst 0, 96, (0, 0, 0, 0, 0, 0)), (96, .istore 4, 98, (0, 0, 0, 0, 0, 0)), (98, .aload_n 0, 99, (0, 0, 0, 0, 0, 0)), (99, .getfield 28, 102, (0, 9, 6, 0, 0, 0)), (102, .iload_n 3, 103, (0, 0, 0, 0, 0, 0)), (103, .iload_n 3, 104, (0, 0, 0, 0, 0, 0)), (104, .iload_n 1, 105, (0, 0, 0, 0, 0, 0)), (105, .if_icmp .ne 7, 108, (112, 0, 0, 0, 0, 0)), (108, .iconst 1, 109, (0, 0, 0, 0, 1, 0)), (109, .goto 4, 112, (113, 0, 0, 0, 0, 0)), (112, .iconst 0, 113, (0, 0, 0, 0, 0, 0)), (113, .iastore, 114, (3, 0, 0, 0, 0, 0)), (114, .iload_n 1, 115, (0, 0, 0, 0, 0, 0)), (115, .istore 5, 117, (0, 0, 0, 0, 0, 0)), (117, .iload 5, 119, (0, 0, 0, 0, 0, 0)), (119, .iload_n 3, 120, (0, 0, 0, 0, 0, 0)), (120, .if_icmp .ge 84, 123, (204, 0, 0, 0, 0, 0)), (123, .iload 4, 125, (0, 0, 0, 0, 0, 0)), (125, .ifCond .eq 79, 128, (204, 0, 0, 0, 0, 0)), (128, .aload_n 0, 129, (0, 0, 0, 0, 0, 0)), (129, .getfield 24, 132, (0, 9, 4, 0, 0, 0)), (132, .iload_n 1, 133, (0, 0, 0, 0, 0, 0)), (133, .iaload, 134, (2, 0, 0, 0, 0, 0)), (134, .aload_n 0, 135, (0, 0, 0, 0, 0, 0)), (135, .getfield 24, 138, (0, 9, 4, 0, 0, 0)), (138, .iload 5, 140, (0, 0, 0, 0, 0, 0)), (140, .iaload, 141, (2, 0, 0, 0, 0, 0)), (141, .iconst (-1), 142, (0, 0, 0, 0, (-1), 0)), (142, .ixor, 143, (0, 0, 0, 0, 0, 0)), (143, .iand, 144, (0, 0, 0, 0, 0, 0)), (144, .ifCond .ne 26, 147, (170, 0, 0, 0, 0, 0)), (147, .aload_n 0, 148, (0, 0, 0, 0, 0, 0)), (148, .getfield 24, 151, (0, 9, 4, 0, 0, 0)), (151, .iload 5, 153, (0, 0, 0, 0, 0, 0)), (153, .iaload, 154, (2, 0, 0, 0, 0, 0)), (154, .aload_n 0, 155, (0, 0, 0, 0, 0, 0)), (155, .getfield 24, 158, (0, 9, 4, 0, 0, 0)), (158, .iload_n 3, 159, (0, 0, 0, 0, 0, 0)), (159, .iaload, 160, (2, 0, 0, 0, 0, 0)), (160, .iconst (-1), 161, (0, 0, 0, 0, (-1), 0)), (161, .ixor, 162, (0, 0, 0, 0, 0, 0)), (162, .iand, 163, (0, 0, 0, 0, 0, 0)), (163, .ifCond .ne 7, 166, (170, 0, 0, 0, 0, 0)), (166, .iconst 1, 167, (0, 0, 0, 0, 1, 0)), (167, .goto 4, 170, (171, 0, 0, 0, 0, 0)), (170, .iconst 0, 171, (0, 0, 0, 0, 0, 0)), (171, .istore 6, 173, (0, 0, 0, 0, 0, 0)), (173, .aload_n 0, 174, (0, 0, 0, 0, 0, 0)), (174, .getfield 28, 177, (0, 9, 6, 0, 0, 0)), (177, .iload_n 3, 178, (0, 0, 0, 0, 0, 0)), (178, .dup2, 179, (0, 0, 0, 0, 0, 0)), (179, .iaload, 180, (3, 0, 0, 0, 0, 0)), (180, .iload 6, 182, (0, 0, 0, 0, 0, 0)), (182, .ifCond .eq 13, 185, (195, 0, 0, 0, 0, 0)), (185, .aload_n 0, 186, (0, 0, 0, 0, 0, 0)), (186, .getfield 28, 189, (0, 9, 6, 0, 0, 0)), (189, .iload 5, 191, (0, 0, 0, 0, 0, 0)), (191, .iaload, 192, (3, 0, 0, 0, 0, 0)), (192, .goto 4, 195, (196, 0, 0, 0, 0, 0)), (195, .iconst 0, 196, (0, 0, 0, 0, 0, 0)), (196, .isub, 197, (0, 0, 0, 0, 0, 0)), (197, .iastore, 198, (3, 0, 0, 0, 0, 0)), (198, .iinc 5 1, 201, (0, 0, 0, 0, 1, 0)), (201, .goto (-84), 204, (117, 0, 0, 0, 0, 0)), (204, .iinc 3 1, 207, (0, 0, 0, 0, 1, 0)), (207, .goto (-157), 210, (50, 0, 0, 0, 0, 0)), (210, .aload_n 0, 211, (0, 0, 0, 0, 0, 0)), (211, .getfield 28, 214, (0, 9, 6, 0, 0, 0)), (214, .iload_n 2, 215, (0, 0, 0, 0, 0, 0)), (215, .iaload, 216, (3, 0, 0, 0, 0, 0)), (216, .ireturn, 217, (0, 0, 0, 0, 0, 0))]
theorem okX9_muOfCuts : zv_ok 7 cX9_muOfCuts RX9 zt vwCl tbX9_muOfCuts = true := by decide +kernel
theorem dzX9_muOfCuts_1 : decode cX9_muOfCuts 1 = .ok (.invokevirtual 87, 3) := by decide +kernel
theorem dzX9_muOfCuts_47 : decode cX9_muOfCuts 47 = .ok (.ireturn, 1) := by decide +kernel
theorem dzX9_muOfCuts_216 : decode cX9_muOfCuts 216 = .ok (.ireturn, 1) := by decide +kernel
set_option maxRecDepth 100000 in
theorem inX9_muOfCuts : Jvm.Cond.code yX9_muOfCuts cX9_muOfCuts 7 ((some .int)) ∈ zt := List.mem_filter.mpr ⟨List.mem_append_right _ (List.mem_of_getElem? (i := 762) rfl), rfl⟩
end
section
/-! THE MODEL: its cells, its leaves -/
abbrev mO (A : Nat → Nat) (n : Nat) (cc : Int32) : Nat × va_E := (A 0, .inr (9, [.int (nI n), .ref (A 1), .ref (A 2), .ref (A 3), .ref (A 4), .int cc, .ref (A 5), .ref (A 6), .ref (A 7), .ref (A 8)]))
abbrev mZ (K : zK) (a : Nat) (f : Nat → Bool) : Nat × va_E := (a, .inl (cZ K, 256, .inl (fun k => bI (f k))))
abbrev mJ (K : zK) (a : Nat) (f : Nat → Int64) : Nat × va_E := (a, .inl (cJ K, 16384, .inr (.inl f)))
abbrev mI (K : zK) (a len : Nat) (f : Nat → Int32) : Nat × va_E := (a, .inl (cI K, len, .inl f))
abbrev mB (K : zK) (a : Nat) (f : Nat → Int32) : Nat × va_E := (a, .inl (cB K, 245760, .inl f))
theorem nb_16 (a b : Nat) : (16 : Int32) * nI a + nI b = nI (16 * a + b) := by
  have e : (16 : Int32) = nI 16 := rfl
  rw [e, pk_mul, nI_add]
theorem nb_isin {s v : Nat} (hs : s < 2 ^ 31) (hv : v < 32) : (nI s >>> (nI v &&& 31)) &&& 1 = nI ((s.testBit v).toNat) := by
  have h1 : ((nI v &&& 31).toBitVec.smod 32).toNat = v := (by decide +kernel : ∀ v, v < 32 → ((nI v &&& 31).toBitVec.smod 32).toNat = v) v hv
  rw [pk_shrN hs _ v h1]
  have e : (1 : Int32) = nI 1 := rfl
  rw [e, nb_and]
  congr 1
  rw [Nat.and_one_is_mod]
  have h2 := Nat.testBit_eq_decide_div_mod_eq (x := s) (i := v)
  rw [h2]
  rcases Nat.mod_two_eq_zero_or_one (s / 2 ^ v) with h | h <;> rw [h] <;> rfl
section MA
variable (K : zK) (A : Nat → Nat) (n : Nat) (cc : Int32) (Lf : Nat → Bool)
set_option maxHeartbeats 4000000 in
set_option maxRecDepth 100000 in
theorem m_has (v : Int32) : zD K yX9_has cX9_has 2 (some .boolean) (zq 0 0 0 0) [.ref (A 0), .int v] [mO A n cc] (some (.int (bI (hasb n v)))) [mO A n cc] := by
  refine zo (by decide) (Nat.le_of_ble_eq_true rfl) fun x C R _ => ?_
  refine zv_go C okX9_has [] 20 ?_
  refine ⟨fun h => ?_, fun h => ⟨rfl, fun h2 => ?_, fun h2 => ?_⟩⟩
  · exact zr R () [0] (some (.int 0)) _ (by unfold hasb; rw [decide_eq_false]; rfl; exact fun q => absurd q.1 (Int32.not_le.mpr h)) rfl trivial rfl rfl (Nat.le_refl _) (Nat.le_refl _) ⟨rfl, dzX9_has_17⟩
  · exact zr R () [0] (some (.int 0)) _ (by unfold hasb; rw [decide_eq_false]; rfl; exact fun q => absurd q.2 (Int32.not_lt.mpr h2)) rfl trivial rfl rfl (Nat.le_refl _) (Nat.le_refl _) ⟨rfl, dzX9_has_17⟩
  · exact zr R () [0] (some (.int 1)) _ (by unfold hasb; rw [decide_eq_true]; rfl; exact ⟨Int32.not_lt.mp h, Int32.not_le.mp h2⟩) rfl trivial rfl rfl (Nat.le_refl _) (Nat.le_refl _) ⟨rfl, dzX9_has_17⟩
set_option maxHeartbeats 4000000 in
set_option maxRecDepth 100000 in
theorem m_is {a b : Nat} (h : 16 * a + b < 256) : zD K yX9_is cX9_is 3 (some .boolean) (zq 0 0 0 0) [.ref (A 0), .int (nI a), .int (nI b)] [mO A n cc, mZ K (A 1) Lf] (some (.int (bI (Lf (16 * a + b))))) [mO A n cc, mZ K (A 1) Lf] := by
  refine zo (by decide) (Nat.le_of_ble_eq_true rfl) fun x C R _ => ?_
  refine zv_go C okX9_is [] 20 ?_
  refine ⟨rfl, ⟨rfl, rfl⟩, ?_, ?_⟩
  · show vp_in ((16 : Int32) * nI a + nI b) 256
    rw [nb_16]; exact vp_in_nI h (by decide)
  · have e : ((16 : Int32) * nI a + nI b).toNatClampNeg = 16 * a + b := by rw [nb_16]; exact nI_clamp (by omega)
    exact zr R () [0, 1] (some (.int (bI (Lf ((16 : Int32) * nI a + nI b).toNatClampNeg)))) _ (by rw [e]) rfl trivial rfl rfl (Nat.le_refl _) (Nat.le_refl _) ⟨bI_nar _, dzX9_is_11⟩
set_option maxHeartbeats 4000000 in
set_option maxRecDepth 100000 in
theorem m_isIn {s v : Nat} (hs : s < 2 ^ 31) (hv : v < 32) : zD K yX9_isIn cX9_isIn 2 (some .boolean) (zq 0 0 0 0) [.int (nI s), .int (nI v)] [] (some (.int (bI (s.testBit v)))) [] := by
  refine zo (by decide) (Nat.le_of_ble_eq_true rfl) fun x C R _ => ?_
  refine zv_go C okX9_isIn [] 20 ?_
  refine ⟨fun h => ?_, fun h => ?_⟩
  · rw [nb_isin hs hv] at h
    exact zr R () [] (some (.int 0)) _ (by cases hb : s.testBit v with
      | true => rw [hb] at h; exact absurd rfl h
      | false => rfl) rfl trivial rfl rfl (Nat.le_refl _) (Nat.le_refl _) ⟨rfl, dzX9_isIn_14⟩
  · rw [nb_isin hs hv] at h
    exact zr R () [] (some (.int 1)) _ (by cases hb : s.testBit v with
      | true => rfl
      | false => rw [hb] at h; exact absurd h (by decide)) rfl trivial rfl rfl (Nat.le_refl _) (Nat.le_refl _) ⟨rfl, dzX9_isIn_14⟩
set_option maxHeartbeats 4000000 in
set_option maxRecDepth 100000 in
theorem m_size {s : Nat} (hs : s < 2 ^ 31) : zD K yX9_size cX9_size 3 (some .int) (zq 0 0 0 0) [.int (nI s)] [] (some (.int (nI (npc 31 s)))) [] := by
  refine zo (by decide) (Nat.le_of_ble_eq_true rfl) fun x C R _ => ?_
  have loop : ∀ mm k, k + mm = 31 → zv_V x (gz K (zq 0 0 0 0) 3 cX9_size yX9_size.cls) 4 [(0, .int (nI s)), (1, .int (nI (npc k s))), (2, .int (nI k))] [] [] 0 0 := by
    intro mm
    induction mm with
    | zero =>
      intro k hk
      have e : k = 31 := by omega
      subst e
      refine zv_go C okX9_size [] 20 ?_
      refine ⟨fun _ => ?_, fun h => absurd (by decide) h⟩
      exact zr R () [] (some (.int _)) _ rfl rfl trivial rfl rfl (Nat.le_refl _) (Nat.le_refl _) dzX9_size_25
    | succ mm ih =>
      intro k hk
      refine zv_go C okX9_size [4] 20 ?_
      refine ⟨fun h => absurd h (nI_ge (b := 31) (by omega) (by omega)), fun _ => ?_⟩
      refine zv_to C (lv' := [(0, .int (nI s)), (1, .int (nI (npc (k + 1) s))), (2, .int (nI (k + 1)))]) ?_ rfl rfl (ih (k + 1) (by omega))
      show [(0, Value.int (nI s)), (1, .int (nI (npc k s) + ((nI s >>> (nI k &&& 31)) &&& 1))), (2, .int (nI k + 1))] = _
      rw [nb_isin hs (by omega), nI_add, nI_1]
      rfl
  refine zv_go C okX9_size [4] 20 ?_
  exact loop 31 0 (by omega)
set_option maxHeartbeats 4000000 in
set_option maxRecDepth 100000 in
theorem m_all (hn : n ≤ 14) : zD K yX9_all cX9_all 1 (some .int) (zq 0 0 0 0) [.ref (A 0)] [mO A n cc] (some (.int (nI (2 ^ n - 1)))) [mO A n cc] := by
  refine zo (by decide) (Nat.le_of_ble_eq_true rfl) fun x C R _ => ?_
  refine zv_go C okX9_all [] 20 ?_
  refine ⟨rfl, ?_⟩
  exact zr R () [0] (some (.int _)) _ (by rw [← nb_all n (by omega)]) rfl trivial rfl rfl (Nat.le_refl _) (Nat.le_refl _) dzX9_all_8
set_option maxHeartbeats 4000000 in
set_option maxRecDepth 100000 in
theorem m_begin_no (k : Int32) (h : k < 1 ∨ 14 < k) : zD K yX9_begin cX9_begin 3 (some .int) (zq 0 0 0 0) [.ref (A 0), .int k] [mO A n cc, mZ K (A 1) Lf] (some (.int (-1))) [mO A n cc, mZ K (A 1) Lf] := by
  refine zo (by decide) (Nat.le_of_ble_eq_true rfl) fun x C R _ => ?_
  refine zv_go C okX9_begin [] 6 ?_
  refine ⟨fun h1 => ?_, fun h1 => ⟨fun h2 => ?_, fun h2 => ?_⟩⟩
  · exact zr R () [0, 1] (some (.int (-1))) _ rfl rfl trivial rfl rfl (Nat.zero_le _) (Nat.zero_le _) dzX9_begin_12
  · exact absurd h (fun z => z.elim h1 (fun w => absurd h2 (Int32.not_le.mpr w)))
  · refine zv_go C okX9_begin [] 6 ?_
    exact zr R () [0, 1] (some (.int (-1))) _ rfl rfl trivial rfl rfl (Nat.zero_le _) (Nat.zero_le _) dzX9_begin_12
theorem bI_n0 : vp_nar .boolean 0 = bI false := by decide
theorem bI_n1 : vp_nar .boolean 1 = bI true := by decide
theorem bI_nn (b : Bool) : vp_nar .boolean (bI b) = bI b := by cases b <;> decide
set_option maxHeartbeats 4000000 in
set_option maxRecDepth 100000 in
theorem m_begin (t : Nat) (h1 : 1 ≤ t) (h2 : t ≤ 14) : zD K yX9_begin cX9_begin 3 (some .int) (zq 0 0 0 0) [.ref (A 0), .int (nI t)] [mO A n cc, mZ K (A 1) Lf] (some (.int (nI t))) [mO A t cc, mZ K (A 1) (fun _ => false)] := by
  refine zo (by decide) (Nat.le_of_ble_eq_true rfl) fun x C R _ => ?_
  have loop : ∀ mm k (f : Nat → Int32), k + mm = 256 → (∀ j, j < k → f j = 0) → zv_V x (gz K (zq 0 0 0 0) 3 cX9_begin yX9_begin.cls) 20 [(0, .ref (A 0)), (1, .int (nI t)), (2, .int (nI k))] [] [mO A t cc, (A 1, .inl (cZ K, 256, .inl f))] 0 0 := by
    intro mm
    induction mm with
    | zero =>
      intro k f hk hf
      have e : k = 256 := by omega
      subst e
      refine zv_exI C 1 (fun _ => bI false) rfl (fun j hj => by rw [hf j hj]; rfl) ?_
      refine zv_go C okX9_begin [] 20 ?_
      refine ⟨fun _ => ⟨rfl, ?_⟩, fun h => absurd (by decide) h⟩
      exact zr R () [0, 1] (some (.int _)) _ rfl rfl trivial rfl rfl (Nat.le_refl _) (Nat.le_refl _) dzX9_begin_44
    | succ mm ih =>
      intro k f hk hf
      refine zv_go C okX9_begin [20] 20 ?_
      refine ⟨fun h => absurd h (nI_ge (b := 256) (by omega) (by omega)), fun _ => ⟨rfl, ⟨rfl, rfl⟩, vp_in_nI (by omega) (by decide), ?_⟩⟩
      refine zv_to C (lv' := [(0, .ref (A 0)), (1, .int (nI t)), (2, .int (nI (k + 1)))]) (by rw [← nI_1] <;> rfl) rfl rfl (ih (k + 1) _ (by omega) ?_)
      intro j hj
      rw [nI_clamp (by omega)]
      by_cases e : j = k
      · rw [e, pk_us]; exact bI_n0
      · rw [pk_un e]; exact hf j (by omega)
  refine zv_go C okX9_begin [20] 20 ?_
  refine ⟨fun h => absurd h (nI_nlt (b := 1) (by omega) (by omega)), fun _ => ⟨fun _ => ⟨rfl, ?_⟩, fun h => absurd (nI_le (b := 14) h2 (by decide)) h⟩⟩
  exact loop 256 0 _ (by omega) (fun j hj => absurd hj (Nat.not_lt_zero _))
/-- how many pairs, row by row -/
def mPr (Lf : Nat → Bool) (x : Nat) : Nat → Nat
  | 0 => 0
  | k + 1 => mPr Lf x k + (Lf (16 * x + k)).toNat
def mPs (Lf : Nat → Bool) (n : Nat) : Nat → Nat
  | 0 => 0
  | k + 1 => mPs Lf n k + mPr Lf k n
set_option maxHeartbeats 4000000 in
set_option maxRecDepth 100000 in
theorem m_pairs (hn : n ≤ 14) : zD K yX9_pairs cX9_pairs 4 (some .int) (zq 1 0 0 22) [.ref (A 0)] [mO A n cc, mZ K (A 1) Lf] (some (.int (nI (mPs Lf n n)))) [mO A n cc, mZ K (A 1) Lf] := by
  refine zo (by decide) (Nat.le_of_ble_eq_true rfl) fun x C R _ => ?_
  have loop : ∀ mm a (lv2 : zv_L), a + mm = n → (lv2 = [] ∨ ∃ z, lv2 = [(3, .int z)]) → zv_V x (gz K (zq 1 0 0 22) 4 cX9_pairs yX9_pairs.cls) 4 ([(0, .ref (A 0)), (1, .int (nI (mPs Lf n a))), (2, .int (nI a))] ++ lv2) [] [mO A n cc, mZ K (A 1) Lf] 0 0 := by
    intro mm
    induction mm with
    | zero =>
      intro a lv2 ha hl2
      have e : a = n := by omega
      refine zv_drop C [0, 1, 2] (lv' := [(0, .ref (A 0)), (1, .int (nI (mPs Lf n a))), (2, .int (nI a))]) (by rcases hl2 with rfl | ⟨z, rfl⟩ <;> rfl) ?_
      subst e
      refine zv_go C okX9_pairs [] 20 ?_
      refine ⟨rfl, fun _ => ?_, fun h => absurd (nI_le (Nat.le_refl _) (by omega)) h⟩
      exact zr R () [0, 1] (some (.int _)) _ rfl rfl trivial rfl rfl (Nat.le_refl _) (Nat.le_refl _) dzX9_pairs_52
    | succ mm ih =>
      intro a lv2 ha hl2
      refine zv_drop C [0, 1, 2] (lv' := [(0, .ref (A 0)), (1, .int (nI (mPs Lf n a))), (2, .int (nI a))]) (by rcases hl2 with rfl | ⟨z, rfl⟩ <;> rfl) ?_
      have inner : ∀ m2 b, b + m2 = n → zv_V x (gz K (zq 1 0 0 22) 4 cX9_pairs yX9_pairs.cls) 14 [(0, .ref (A 0)), (1, .int (nI (mPs Lf n a + mPr Lf a b))), (2, .int (nI a)), (3, .int (nI b))] [] [mO A n cc, mZ K (A 1) Lf] 0 0 := by
        intro m2
        induction m2 with
        | zero =>
          intro b hb
          have e : b = n := by omega
          subst e
          refine zv_go C okX9_pairs [4] 20 ?_
          refine ⟨rfl, fun _ => ?_, fun h => absurd (nI_le (Nat.le_refl _) (by omega)) h⟩
          exact zv_to C (lv' := [(0, .ref (A 0)), (1, .int (nI (mPs Lf b (a + 1)))), (2, .int (nI (a + 1))), (3, .int (nI b))]) (by rw [← nI_1] <;> rfl) rfl rfl (ih (a + 1) [_] (by omega) (Or.inr ⟨_, rfl⟩))
        | succ m2 ih2 =>
          intro b hb
          refine zv_go C okX9_pairs [] 8 ?_
          refine ⟨rfl, fun h => absurd h (nI_ge (by omega) (by omega)), fun _ => ?_⟩
          refine zv_callV C (m_is K A n cc Lf (a := a) (b := b) (by omega)) (zw_V inX9_is kX9_46 ⟨by decide, by decide⟩) [0, 1] 0 rfl rfl rfl rfl (fun _ => Nat.le_refl _) (rest := [.int (nI (mPs Lf n a + mPr Lf a b))]) rfl rfl (Nat.le_of_ble_eq_true rfl) dzX9_pairs_26 (by decide) (by decide) rfl (fun _ _ => ?_)
          refine zv_to C rfl rfl (ws' := [mO A n cc, mZ K (A 1) Lf]) rfl ?_
          refine zv_go C okX9_pairs [14] 20 ?_
          refine ⟨fun h => ?_, fun h => ?_⟩
          · rw [bI_0] at h
            refine zv_to C (lv' := [(0, .ref (A 0)), (1, .int (nI (mPs Lf n a + mPr Lf a (b + 1)))), (2, .int (nI a)), (3, .int (nI (b + 1)))]) ?_ rfl rfl (ih2 (b + 1) (by omega))
            show [(0, Value.ref (A 0)), (1, .int (nI (mPs Lf n a + mPr Lf a b) + nI 0)), (2, .int (nI a)), (3, .int (nI b + 1))] = _
            rw [nI_add, nI_1, mPr, h]
            rfl
          · rw [bI_1] at h
            refine zv_to C (lv' := [(0, .ref (A 0)), (1, .int (nI (mPs Lf n a + mPr Lf a (b + 1)))), (2, .int (nI a)), (3, .int (nI (b + 1)))]) ?_ rfl rfl (ih2 (b + 1) (by omega))
            show [(0, Value.ref (A 0)), (1, .int (nI (mPs Lf n a + mPr Lf a b) + nI 1)), (2, .int (nI a)), (3, .int (nI b + 1))] = _
            rw [nI_add, nI_1, mPr, h]
            rfl
      refine zv_go C okX9_pairs [14] 20 ?_
      refine ⟨rfl, fun h => absurd h (nI_ge (by omega) (by omega)), fun _ => ?_⟩
      exact inner n 0 (by omega)
  refine zv_go C okX9_pairs [4] 20 ?_
  exact loop n 0 [] (by omega) (Or.inl rfl)
end MA
end
section
/-! THE MODEL: loops of truths -/
def allB (p : Nat → Bool) : Nat → Bool
  | 0 => true
  | k + 1 => allB p k && p k
def setB (q : Nat → Bool) : Nat → Nat
  | 0 => 0
  | k + 1 => setB q k ||| (if q k = true then 2 ^ k else 0)
theorem setB_lt {q : Nat → Bool} : ∀ k, setB q k < 2 ^ k
  | 0 => Nat.zero_lt_one
  | k + 1 => by
    have h := setB_lt (q := q) k
    unfold setB
    refine nb_lt_or (Nat.lt_trans h (nb_lt_pow (by omega))) ?_
    split
    · exact nb_lt_pow (by omega)
    · exact Nat.two_pow_pos _
section MB
variable (K : zK) (A : Nat → Nat) (n : Nat) (cc : Int32) (Lf : Nat → Bool)
def pisChain (Lf : Nat → Bool) (s a b : Nat) : Bool := (!s.testBit a || (!s.testBit b || (Lf (16 * a + b) || Lf (16 * b + a))))
set_option maxHeartbeats 4000000 in
set_option maxRecDepth 100000 in
theorem m_isChain {s : Nat} (hs : s < 2 ^ 14) (hn : n ≤ 14) : zD K yX9_isChain cX9_isChain 5 (some .boolean) (zq 1 0 0 22) [.ref (A 0), .int (nI s)] [mO A n cc, mZ K (A 1) Lf] (some (.int (bI (allB (fun a => allB (pisChain Lf s a) a)  n)))) [mO A n cc, mZ K (A 1) Lf] := by
  refine zo (by decide) (Nat.le_of_ble_eq_true rfl) fun x C R _ => ?_
  have loop : ∀ mm a (lv2 : zv_L), a + mm = n → (lv2 = [] ∨ ∃ z, lv2 = [(4, .int z)]) → zv_V x (gz K (zq 1 0 0 22) 5 cX9_isChain yX9_isChain.cls) 4 ([(0, .ref (A 0)), (1, .int (nI s)), (2, .int (bI (allB (fun a => allB (pisChain Lf s a) a) a))), (3, .int (nI a))] ++ lv2) [] [mO A n cc, mZ K (A 1) Lf] 0 0 := by
    intro mm
    induction mm with
    | zero =>
      intro a lv2 ha hl2
      have e : a = n := by omega
      refine zv_drop C [0, 1, 2, 3] (lv' := [(0, .ref (A 0)), (1, .int (nI s)), (2, .int (bI (allB (fun a => allB (pisChain Lf s a) a) a))), (3, .int (nI a))]) (by rcases hl2 with rfl | ⟨z, rfl⟩ <;> rfl) ?_
      subst e
      refine zv_go C okX9_isChain [] 20 ?_
      refine ⟨rfl, fun _ => ?_, fun h => absurd (nI_le (Nat.le_refl _) (by omega)) h⟩
      exact zr R () [0, 1] (some (.int _)) _ rfl rfl trivial rfl rfl (Nat.le_refl _) (Nat.le_refl _) ⟨bI_nar _, dzX9_isChain_81⟩
    | succ mm ih =>
      intro a lv2 ha hl2
      refine zv_drop C [0, 1, 2, 3] (lv' := [(0, .ref (A 0)), (1, .int (nI s)), (2, .int (bI (allB (fun a => allB (pisChain Lf s a) a) a))), (3, .int (nI a))]) (by rcases hl2 with rfl | ⟨z, rfl⟩ <;> rfl) ?_
      have inner : ∀ m2 b, b + m2 = a → zv_V x (gz K (zq 1 0 0 22) 5 cX9_isChain yX9_isChain.cls) 15 [(0, .ref (A 0)), (1, .int (nI s)), (2, .int (bI (allB (fun a => allB (pisChain Lf s a) a) a && allB (pisChain Lf s a) b))), (3, .int (nI a)), (4, .int (nI b))] [] [mO A n cc, mZ K (A 1) Lf] 0 0 := by
        intro m2
        induction m2 with
        | zero =>
          intro b hb
          have e : a = b := by omega
          subst e
          refine zv_go C okX9_isChain [4] 20 ?_
          refine ⟨fun _ => ?_, fun h => absurd (nI_le (Nat.le_refl _) (by omega)) h⟩
          exact zv_to C (lv' := [(0, .ref (A 0)), (1, .int (nI s)), (2, .int (bI (allB (fun a => allB (pisChain Lf s a) a) (a + 1)))), (3, .int (nI (a + 1))), (4, .int (nI a))]) (by rw [← nI_1] <;> rfl) rfl rfl (ih (a + 1) [_] (by omega) (Or.inr ⟨_, rfl⟩))
        | succ m2 ih2 =>
          intro b hb
          have hab : 16 * a + b < 256 ∧ 16 * b + a < 256 := by omega
          generalize hf : (allB (fun a => allB (pisChain Lf s a) a) a && allB (pisChain Lf s a) b) = f
          have join : ∀ c : Int32, c = bI (f && (!s.testBit a || (!s.testBit b || (Lf (16 * a + b) || Lf (16 * b + a))))) → zv_V x (gz K (zq 1 0 0 22) 5 cX9_isChain yX9_isChain.cls) 67 [(0, .ref (A 0)), (1, .int (nI s)), (2, .int (bI (f))), (3, .int (nI a)), (4, .int (nI b))] [.int c] [mO A n cc, mZ K (A 1) Lf] 0 0 := by
            intro c hc
            subst hc
            refine zv_go C okX9_isChain [15] 20 ?_
            refine zv_to C (lv' := [(0, .ref (A 0)), (1, .int (nI s)), (2, .int (bI (allB (fun a => allB (pisChain Lf s a) a) a && allB (pisChain Lf s a) (b + 1)))), (3, .int (nI a)), (4, .int (nI (b + 1)))]) ?_ rfl rfl (ih2 (b + 1) (by omega))
            have e3 : (allB (fun a => allB (pisChain Lf s a) a) a && allB (pisChain Lf s a) (b + 1)) = (f && (!s.testBit a || (!s.testBit b || (Lf (16 * a + b) || Lf (16 * b + a))))) := by
              rw [← hf, allB, ← Bool.and_assoc]
              rfl
            rw [e3, ← nI_1]
            rfl
          refine zv_go C okX9_isChain [] 3 ?_
          refine ⟨fun h => absurd h (nI_ge (by omega) (by omega)), fun _ => ?_⟩
          refine zv_go C okX9_isChain [] 2 ?_
          refine ⟨fun q1 => ?_, fun q1 => ?_⟩
          · rw [bI_0] at q1
            refine zv_go C okX9_isChain [67] 1 ?_
            exact join _ (by simp [bI, q1])
          · rw [bI_1] at q1
            refine zv_go C okX9_isChain [] 2 ?_
            refine zv_callS C (m_isIn K (s := s) (v := a) (by omega) (by omega)) (zw_S inX9_isIn kX9_58 ⟨by decide, by decide⟩) [] rfl rfl (fun _ => Nat.le_refl _) rfl rfl (by decide) dzX9_isChain_27 (by decide) (by decide) rfl (fun _ _ => ?_)
            refine zv_to C rfl rfl (ws' := [mO A n cc, mZ K (A 1) Lf]) rfl ?_
            refine zv_go C okX9_isChain [] 1 ?_
            refine ⟨fun q2 => ?_, fun q2 => ?_⟩
            · rw [bI_0] at q2
              refine zv_go C okX9_isChain [67] 2 ?_
              exact join _ (by simp [bI, q1, q2])
            · rw [bI_1] at q2
              refine zv_go C okX9_isChain [] 2 ?_
              refine zv_callS C (m_isIn K (s := s) (v := b) (by omega) (by omega)) (zw_S inX9_isIn kX9_58 ⟨by decide, by decide⟩) [] rfl rfl (fun _ => Nat.le_refl _) rfl rfl (by decide) dzX9_isChain_36 (by decide) (by decide) rfl (fun _ _ => ?_)
              refine zv_to C rfl rfl (ws' := [mO A n cc, mZ K (A 1) Lf]) rfl ?_
              refine zv_go C okX9_isChain [] 1 ?_
              refine ⟨fun q3 => ?_, fun q3 => ?_⟩
              · rw [bI_0] at q3
                refine zv_go C okX9_isChain [67] 2 ?_
                exact join _ (by simp [bI, q1, q2, q3])
              · rw [bI_1] at q3
                refine zv_go C okX9_isChain [] 3 ?_
                refine zv_callV C (m_is K A n cc Lf (a := a) (b := b) (by omega)) (zw_V inX9_is kX9_46 ⟨by decide, by decide⟩) [0, 1] 0 rfl rfl rfl rfl (fun _ => Nat.le_refl _) rfl rfl (by decide) dzX9_isChain_46 (by decide) (by decide) rfl (fun _ _ => ?_)
                refine zv_to C rfl rfl (ws' := [mO A n cc, mZ K (A 1) Lf]) rfl ?_
                refine zv_go C okX9_isChain [] 1 ?_
                refine ⟨fun q4 => ?_, fun q4 => ?_⟩
                · rw [bI_1] at q4
                  refine zv_go C okX9_isChain [67] 2 ?_
                  exact join _ (by simp [bI, q1, q2, q3, q4])
                · rw [bI_0] at q4
                  refine zv_go C okX9_isChain [] 3 ?_
                  refine zv_callV C (m_is K A n cc Lf (a := b) (b := a) (by omega)) (zw_V inX9_is kX9_46 ⟨by decide, by decide⟩) [0, 1] 0 rfl rfl rfl rfl (fun _ => Nat.le_refl _) rfl rfl (by decide) dzX9_isChain_56 (by decide) (by decide) rfl (fun _ _ => ?_)
                  refine zv_to C rfl rfl (ws' := [mO A n cc, mZ K (A 1) Lf]) rfl ?_
                  refine zv_go C okX9_isChain [] 1 ?_
                  refine ⟨fun q5 => ?_, fun q5 => ?_⟩
                  · rw [bI_0] at q5
                    refine zv_go C okX9_isChain [67] 1 ?_
                    exact join _ (by simp [bI, q1, q2, q3, q4, q5])
                  · rw [bI_1] at q5
                    refine zv_go C okX9_isChain [67] 2 ?_
                    exact join _ (by simp [bI, q1, q2, q3, q4, q5])
      refine zv_go C okX9_isChain [15] 20 ?_
      refine ⟨rfl, fun h => absurd h (nI_ge (by omega) (by omega)), fun _ => ?_⟩
      exact zv_to C (lv' := [(0, .ref (A 0)), (1, .int (nI s)), (2, .int (bI (allB (fun a => allB (pisChain Lf s a) a) a && allB (pisChain Lf s a) 0))), (3, .int (nI a)), (4, .int (nI 0))]) (by rw [allB.eq_1, Bool.and_true] <;> rfl) rfl rfl (inner a 0 (by omega))
  refine zv_go C okX9_isChain [4] 20 ?_
  exact loop n 0 [] (by omega) (Or.inl rfl)
def pisApart (Lf : Nat → Bool) (s a b : Nat) : Bool := (!s.testBit a || (!s.testBit b || !Lf (16 * a + b)))
set_option maxHeartbeats 4000000 in
set_option maxRecDepth 100000 in
theorem m_isApart {s : Nat} (hs : s < 2 ^ 14) (hn : n ≤ 14) : zD K yX9_isApart cX9_isApart 5 (some .boolean) (zq 1 0 0 22) [.ref (A 0), .int (nI s)] [mO A n cc, mZ K (A 1) Lf] (some (.int (bI (allB (fun a => allB (pisApart Lf s a) n)  n)))) [mO A n cc, mZ K (A 1) Lf] := by
  refine zo (by decide) (Nat.le_of_ble_eq_true rfl) fun x C R _ => ?_
  have loop : ∀ mm a (lv2 : zv_L), a + mm = n → (lv2 = [] ∨ ∃ z, lv2 = [(4, .int z)]) → zv_V x (gz K (zq 1 0 0 22) 5 cX9_isApart yX9_isApart.cls) 4 ([(0, .ref (A 0)), (1, .int (nI s)), (2, .int (bI (allB (fun a => allB (pisApart Lf s a) n) a))), (3, .int (nI a))] ++ lv2) [] [mO A n cc, mZ K (A 1) Lf] 0 0 := by
    intro mm
    induction mm with
    | zero =>
      intro a lv2 ha hl2
      have e : a = n := by omega
      refine zv_drop C [0, 1, 2, 3] (lv' := [(0, .ref (A 0)), (1, .int (nI s)), (2, .int (bI (allB (fun a => allB (pisApart Lf s a) n) a))), (3, .int (nI a))]) (by rcases hl2 with rfl | ⟨z, rfl⟩ <;> rfl) ?_
      subst e
      refine zv_go C okX9_isApart [] 20 ?_
      refine ⟨rfl, fun _ => ?_, fun h => absurd (nI_le (Nat.le_refl _) (by omega)) h⟩
      exact zr R () [0, 1] (some (.int _)) _ rfl rfl trivial rfl rfl (Nat.le_refl _) (Nat.le_refl _) ⟨bI_nar _, dzX9_isApart_74⟩
    | succ mm ih =>
      intro a lv2 ha hl2
      refine zv_drop C [0, 1, 2, 3] (lv' := [(0, .ref (A 0)), (1, .int (nI s)), (2, .int (bI (allB (fun a => allB (pisApart Lf s a) n) a))), (3, .int (nI a))]) (by rcases hl2 with rfl | ⟨z, rfl⟩ <;> rfl) ?_
      have inner : ∀ m2 b, b + m2 = n → zv_V x (gz K (zq 1 0 0 22) 5 cX9_isApart yX9_isApart.cls) 15 [(0, .ref (A 0)), (1, .int (nI s)), (2, .int (bI (allB (fun a => allB (pisApart Lf s a) n) a && allB (pisApart Lf s a) b))), (3, .int (nI a)), (4, .int (nI b))] [] [mO A n cc, mZ K (A 1) Lf] 0 0 := by
        intro m2
        induction m2 with
        | zero =>
          intro b hb
          have e : b = n := by omega
          subst e
          refine zv_go C okX9_isApart [4] 20 ?_
          refine ⟨rfl, fun _ => ?_, fun h => absurd (nI_le (Nat.le_refl _) (by omega)) h⟩
          exact zv_to C (lv' := [(0, .ref (A 0)), (1, .int (nI s)), (2, .int (bI (allB (fun a => allB (pisApart Lf s a) b) (a + 1)))), (3, .int (nI (a + 1))), (4, .int (nI b))]) (by rw [← nI_1] <;> rfl) rfl rfl (ih (a + 1) [_] (by omega) (Or.inr ⟨_, rfl⟩))
        | succ m2 ih2 =>
          intro b hb
          have hab : 16 * a + b < 256 ∧ 16 * b + a < 256 := by omega
          generalize hf : (allB (fun a => allB (pisApart Lf s a) n) a && allB (pisApart Lf s a) b) = f
          have join : ∀ c : Int32, c = bI (f && (!s.testBit a || (!s.testBit b || !Lf (16 * a + b)))) → zv_V x (gz K (zq 1 0 0 22) 5 cX9_isApart yX9_isApart.cls) 60 [(0, .ref (A 0)), (1, .int (nI s)), (2, .int (bI (f))), (3, .int (nI a)), (4, .int (nI b))] [.int c] [mO A n cc, mZ K (A 1) Lf] 0 0 := by
            intro c hc
            subst hc
            refine zv_go C okX9_isApart [15] 20 ?_
            refine zv_to C (lv' := [(0, .ref (A 0)), (1, .int (nI s)), (2, .int (bI (allB (fun a => allB (pisApart Lf s a) n) a && allB (pisApart Lf s a) (b + 1)))), (3, .int (nI a)), (4, .int (nI (b + 1)))]) ?_ rfl rfl (ih2 (b + 1) (by omega))
            have e3 : (allB (fun a => allB (pisApart Lf s a) n) a && allB (pisApart Lf s a) (b + 1)) = (f && (!s.testBit a || (!s.testBit b || !Lf (16 * a + b)))) := by
              rw [← hf, allB, ← Bool.and_assoc]
              rfl
            rw [e3, ← nI_1]
            rfl
          refine zv_go C okX9_isApart [] 4 ?_
          refine ⟨rfl, fun h => absurd h (nI_ge (by omega) (by omega)), fun _ => ?_⟩
          refine zv_go C okX9_isApart [] 2 ?_
          refine ⟨fun q1 => ?_, fun q1 => ?_⟩
          · rw [bI_0] at q1
            refine zv_go C okX9_isApart [60] 1 ?_
            exact join _ (by simp [bI, q1])
          · rw [bI_1] at q1
            refine zv_go C okX9_isApart [] 2 ?_
            refine zv_callS C (m_isIn K (s := s) (v := a) (by omega) (by omega)) (zw_S inX9_isIn kX9_58 ⟨by decide, by decide⟩) [] rfl rfl (fun _ => Nat.le_refl _) rfl rfl (by decide) dzX9_isApart_30 (by decide) (by decide) rfl (fun _ _ => ?_)
            refine zv_to C rfl rfl (ws' := [mO A n cc, mZ K (A 1) Lf]) rfl ?_
            refine zv_go C okX9_isApart [] 1 ?_
            refine ⟨fun q2 => ?_, fun q2 => ?_⟩
            · rw [bI_0] at q2
              refine zv_go C okX9_isApart [60] 2 ?_
              exact join _ (by simp [bI, q1, q2])
            · rw [bI_1] at q2
              refine zv_go C okX9_isApart [] 2 ?_
              refine zv_callS C (m_isIn K (s := s) (v := b) (by omega) (by omega)) (zw_S inX9_isIn kX9_58 ⟨by decide, by decide⟩) [] rfl rfl (fun _ => Nat.le_refl _) rfl rfl (by decide) dzX9_isApart_39 (by decide) (by decide) rfl (fun _ _ => ?_)
              refine zv_to C rfl rfl (ws' := [mO A n cc, mZ K (A 1) Lf]) rfl ?_
              refine zv_go C okX9_isApart [] 1 ?_
              refine ⟨fun q3 => ?_, fun q3 => ?_⟩
              · rw [bI_0] at q3
                refine zv_go C okX9_isApart [60] 2 ?_
                exact join _ (by simp [bI, q1, q2, q3])
              · rw [bI_1] at q3
                refine zv_go C okX9_isApart [] 3 ?_
                refine zv_callV C (m_is K A n cc Lf (a := a) (b := b) (by omega)) (zw_V inX9_is kX9_46 ⟨by decide, by decide⟩) [0, 1] 0 rfl rfl rfl rfl (fun _ => Nat.le_refl _) rfl rfl (by decide) dzX9_isApart_49 (by decide) (by decide) rfl (fun _ _ => ?_)
                refine zv_to C rfl rfl (ws' := [mO A n cc, mZ K (A 1) Lf]) rfl ?_
                refine zv_go C okX9_isApart [] 1 ?_
                refine ⟨fun q4 => ?_, fun q4 => ?_⟩
                · rw [bI_1] at q4
                  refine zv_go C okX9_isApart [60] 1 ?_
                  exact join _ (by simp [bI, q1, q2, q3, q4])
                · rw [bI_0] at q4
                  refine zv_go C okX9_isApart [60] 2 ?_
                  exact join _ (by simp [bI, q1, q2, q3, q4])
      refine zv_go C okX9_isApart [15] 20 ?_
      refine ⟨rfl, fun h => absurd h (nI_ge (by omega) (by omega)), fun _ => ?_⟩
      exact zv_to C (lv' := [(0, .ref (A 0)), (1, .int (nI s)), (2, .int (bI (allB (fun a => allB (pisApart Lf s a) n) a && allB (pisApart Lf s a) 0))), (3, .int (nI a)), (4, .int (nI 0))]) (by rw [allB.eq_1, Bool.and_true] <;> rfl) rfl rfl (inner n 0 (by omega))
  refine zv_go C okX9_isApart [4] 20 ?_
  exact loop n 0 [] (by omega) (Or.inl rfl)
def pisIdeal (Lf : Nat → Bool) (s a b : Nat) : Bool := (!s.testBit b || (!Lf (16 * a + b) || s.testBit a))
set_option maxHeartbeats 4000000 in
set_option maxRecDepth 100000 in
theorem m_isIdeal {s : Nat} (hs : s < 2 ^ 14) (hn : n ≤ 14) : zD K yX9_isIdeal cX9_isIdeal 5 (some .boolean) (zq 1 0 0 22) [.ref (A 0), .int (nI s)] [mO A n cc, mZ K (A 1) Lf] (some (.int (bI (allB (fun a => allB (pisIdeal Lf s a) n)  n)))) [mO A n cc, mZ K (A 1) Lf] := by
  refine zo (by decide) (Nat.le_of_ble_eq_true rfl) fun x C R _ => ?_
  have loop : ∀ mm a (lv2 : zv_L), a + mm = n → (lv2 = [] ∨ ∃ z, lv2 = [(4, .int z)]) → zv_V x (gz K (zq 1 0 0 22) 5 cX9_isIdeal yX9_isIdeal.cls) 4 ([(0, .ref (A 0)), (1, .int (nI s)), (2, .int (bI (allB (fun a => allB (pisIdeal Lf s a) n) a))), (3, .int (nI a))] ++ lv2) [] [mO A n cc, mZ K (A 1) Lf] 0 0 := by
    intro mm
    induction mm with
    | zero =>
      intro a lv2 ha hl2
      have e : a = n := by omega
      refine zv_drop C [0, 1, 2, 3] (lv' := [(0, .ref (A 0)), (1, .int (nI s)), (2, .int (bI (allB (fun a => allB (pisIdeal Lf s a) n) a))), (3, .int (nI a))]) (by rcases hl2 with rfl | ⟨z, rfl⟩ <;> rfl) ?_
      subst e
      refine zv_go C okX9_isIdeal [] 20 ?_
      refine ⟨rfl, fun _ => ?_, fun h => absurd (nI_le (Nat.le_refl _) (by omega)) h⟩
      exact zr R () [0, 1] (some (.int _)) _ rfl rfl trivial rfl rfl (Nat.le_refl _) (Nat.le_refl _) ⟨bI_nar _, dzX9_isIdeal_74⟩
    | succ mm ih =>
      intro a lv2 ha hl2
      refine zv_drop C [0, 1, 2, 3] (lv' := [(0, .ref (A 0)), (1, .int (nI s)), (2, .int (bI (allB (fun a => allB (pisIdeal Lf s a) n) a))), (3, .int (nI a))]) (by rcases hl2 with rfl | ⟨z, rfl⟩ <;> rfl) ?_
      have inner : ∀ m2 b, b + m2 = n → zv_V x (gz K (zq 1 0 0 22) 5 cX9_isIdeal yX9_isIdeal.cls) 15 [(0, .ref (A 0)), (1, .int (nI s)), (2, .int (bI (allB (fun a => allB (pisIdeal Lf s a) n) a && allB (pisIdeal Lf s a) b))), (3, .int (nI a)), (4, .int (nI b))] [] [mO A n cc, mZ K (A 1) Lf] 0 0 := by
        intro m2
        induction m2 with
        | zero =>
          intro b hb
          have e : b = n := by omega
          subst e
          refine zv_go C okX9_isIdeal [4] 20 ?_
          refine ⟨rfl, fun _ => ?_, fun h => absurd (nI_le (Nat.le_refl _) (by omega)) h⟩
          exact zv_to C (lv' := [(0, .ref (A 0)), (1, .int (nI s)), (2, .int (bI (allB (fun a => allB (pisIdeal Lf s a) b) (a + 1)))), (3, .int (nI (a + 1))), (4, .int (nI b))]) (by rw [← nI_1] <;> rfl) rfl rfl (ih (a + 1) [_] (by omega) (Or.inr ⟨_, rfl⟩))
        | succ m2 ih2 =>
          intro b hb
          have hab : 16 * a + b < 256 ∧ 16 * b + a < 256 := by omega
          generalize hf : (allB (fun a => allB (pisIdeal Lf s a) n) a && allB (pisIdeal Lf s a) b) = f
          have join : ∀ c : Int32, c = bI (f && (!s.testBit b || (!Lf (16 * a + b) || s.testBit a))) → zv_V x (gz K (zq 1 0 0 22) 5 cX9_isIdeal yX9_isIdeal.cls) 60 [(0, .ref (A 0)), (1, .int (nI s)), (2, .int (bI (f))), (3, .int (nI a)), (4, .int (nI b))] [.int c] [mO A n cc, mZ K (A 1) Lf] 0 0 := by
            intro c hc
            subst hc
            refine zv_go C okX9_isIdeal [15] 20 ?_
            refine zv_to C (lv' := [(0, .ref (A 0)), (1, .int (nI s)), (2, .int (bI (allB (fun a => allB (pisIdeal Lf s a) n) a && allB (pisIdeal Lf s a) (b + 1)))), (3, .int (nI a)), (4, .int (nI (b + 1)))]) ?_ rfl rfl (ih2 (b + 1) (by omega))
            have e3 : (allB (fun a => allB (pisIdeal Lf s a) n) a && allB (pisIdeal Lf s a) (b + 1)) = (f && (!s.testBit b || (!Lf (16 * a + b) || s.testBit a))) := by
              rw [← hf, allB, ← Bool.and_assoc]
              rfl
            rw [e3, ← nI_1]
            rfl
          refine zv_go C okX9_isIdeal [] 4 ?_
          refine ⟨rfl, fun h => absurd h (nI_ge (by omega) (by omega)), fun _ => ?_⟩
          refine zv_go C okX9_isIdeal [] 2 ?_
          refine ⟨fun q1 => ?_, fun q1 => ?_⟩
          · rw [bI_0] at q1
            refine zv_go C okX9_isIdeal [60] 1 ?_
            exact join _ (by simp [bI, q1])
          · rw [bI_1] at q1
            refine zv_go C okX9_isIdeal [] 2 ?_
            refine zv_callS C (m_isIn K (s := s) (v := b) (by omega) (by omega)) (zw_S inX9_isIn kX9_58 ⟨by decide, by decide⟩) [] rfl rfl (fun _ => Nat.le_refl _) rfl rfl (by decide) dzX9_isIdeal_31 (by decide) (by decide) rfl (fun _ _ => ?_)
            refine zv_to C rfl rfl (ws' := [mO A n cc, mZ K (A 1) Lf]) rfl ?_
            refine zv_go C okX9_isIdeal [] 1 ?_
            refine ⟨fun q2 => ?_, fun q2 => ?_⟩
            · rw [bI_0] at q2
              refine zv_go C okX9_isIdeal [60] 2 ?_
              exact join _ (by simp [bI, q1, q2])
            · rw [bI_1] at q2
              refine zv_go C okX9_isIdeal [] 3 ?_
              refine zv_callV C (m_is K A n cc Lf (a := a) (b := b) (by omega)) (zw_V inX9_is kX9_46 ⟨by decide, by decide⟩) [0, 1] 0 rfl rfl rfl rfl (fun _ => Nat.le_refl _) rfl rfl (by decide) dzX9_isIdeal_41 (by decide) (by decide) rfl (fun _ _ => ?_)
              refine zv_to C rfl rfl (ws' := [mO A n cc, mZ K (A 1) Lf]) rfl ?_
              refine zv_go C okX9_isIdeal [] 1 ?_
              refine ⟨fun q3 => ?_, fun q3 => ?_⟩
              · rw [bI_0] at q3
                refine zv_go C okX9_isIdeal [60] 2 ?_
                exact join _ (by simp [bI, q1, q2, q3])
              · rw [bI_1] at q3
                refine zv_go C okX9_isIdeal [] 2 ?_
                refine zv_callS C (m_isIn K (s := s) (v := a) (by omega) (by omega)) (zw_S inX9_isIn kX9_58 ⟨by decide, by decide⟩) [] rfl rfl (fun _ => Nat.le_refl _) rfl rfl (by decide) dzX9_isIdeal_49 (by decide) (by decide) rfl (fun _ _ => ?_)
                refine zv_to C rfl rfl (ws' := [mO A n cc, mZ K (A 1) Lf]) rfl ?_
                refine zv_go C okX9_isIdeal [] 1 ?_
                refine ⟨fun q4 => ?_, fun q4 => ?_⟩
                · rw [bI_0] at q4
                  refine zv_go C okX9_isIdeal [60] 1 ?_
                  exact join _ (by simp [bI, q1, q2, q3, q4])
                · rw [bI_1] at q4
                  refine zv_go C okX9_isIdeal [60] 2 ?_
                  exact join _ (by simp [bI, q1, q2, q3, q4])
      refine zv_go C okX9_isIdeal [15] 20 ?_
      refine ⟨rfl, fun h => absurd h (nI_ge (by omega) (by omega)), fun _ => ?_⟩
      exact zv_to C (lv' := [(0, .ref (A 0)), (1, .int (nI s)), (2, .int (bI (allB (fun a => allB (pisIdeal Lf s a) n) a && allB (pisIdeal Lf s a) 0))), (3, .int (nI a)), (4, .int (nI 0))]) (by rw [allB.eq_1, Bool.and_true] <;> rfl) rfl rfl (inner n 0 (by omega))
  refine zv_go C okX9_isIdeal [4] 20 ?_
  exact loop n 0 [] (by omega) (Or.inl rfl)
def mayC (Lf : Nat → Bool) (n s v : Nat) : Bool := s.testBit v && allB (fun u => !(s.testBit u && Lf (16 * u + v))) n
set_option maxHeartbeats 4000000 in
set_option maxRecDepth 100000 in
theorem m_mayCome {v s : Nat} (hv : v < 16) (hs : s < 2 ^ 14) (hn : n ≤ 14) : zD K yX9_mayCome cX9_mayCome 5 (some .boolean) (zq 1 0 0 22) [.ref (A 0), .int (nI v), .int (nI s)] [mO A n cc, mZ K (A 1) Lf] (some (.int (bI (mayC Lf n s v)))) [mO A n cc, mZ K (A 1) Lf] := by
  refine zo (by decide) (Nat.le_of_ble_eq_true rfl) fun x C R _ => ?_
  have loop : ∀ mm u, u + mm = n → zv_V x (gz K (zq 1 0 0 22) 5 cX9_mayCome yX9_mayCome.cls) 9 [(0, .ref (A 0)), (1, .int (nI v)), (2, .int (nI s)), (3, .int (bI (s.testBit v && allB (fun u => !(s.testBit u && Lf (16 * u + v))) u))), (4, .int (nI u))] [] [mO A n cc, mZ K (A 1) Lf] 0 0 := by
    intro mm
    induction mm with
    | zero =>
      intro u hu
      have e : u = n := by omega
      subst e
      refine zv_go C okX9_mayCome [] 20 ?_
      refine ⟨rfl, fun _ => ?_, fun h => absurd (nI_le (Nat.le_refl _) (by omega)) h⟩
      exact zr R () [0, 1] (some (.int _)) _ rfl rfl trivial rfl rfl (Nat.le_refl _) (Nat.le_refl _) ⟨bI_nar _, dzX9_mayCome_54⟩
    | succ mm ih =>
      intro u hu
      generalize hf : (s.testBit v && allB (fun u => !(s.testBit u && Lf (16 * u + v))) u) = f
      have join : ∀ c : Int32, c = bI (f && !(s.testBit u && Lf (16 * u + v))) → zv_V x (gz K (zq 1 0 0 22) 5 cX9_mayCome yX9_mayCome.cls) 46 [(0, .ref (A 0)), (1, .int (nI v)), (2, .int (nI s)), (3, .int (bI (f))), (4, .int (nI u))] [.int c] [mO A n cc, mZ K (A 1) Lf] 0 0 := by
        intro c hc
        subst hc
        refine zv_go C okX9_mayCome [9] 20 ?_
        refine zv_to C (lv' := [(0, .ref (A 0)), (1, .int (nI v)), (2, .int (nI s)), (3, .int (bI (s.testBit v && allB (fun u => !(s.testBit u && Lf (16 * u + v))) (u + 1)))), (4, .int (nI (u + 1)))]) ?_ rfl rfl (ih (u + 1) (by omega))
        have e3 : (s.testBit v && allB (fun u => !(s.testBit u && Lf (16 * u + v))) (u + 1)) = (f && !(s.testBit u && Lf (16 * u + v))) := by
          rw [← hf, allB, ← Bool.and_assoc]
        rw [e3, ← nI_1]
        rfl
      refine zv_go C okX9_mayCome [] 4 ?_
      refine ⟨rfl, fun h => absurd h (nI_ge (by omega) (by omega)), fun _ => ?_⟩
      refine zv_go C okX9_mayCome [] 2 ?_
      refine ⟨fun q1 => ?_, fun q1 => ?_⟩
      · rw [bI_0] at q1
        refine zv_go C okX9_mayCome [46] 1 ?_
        exact join _ (by simp [bI, q1])
      · rw [bI_1] at q1
        refine zv_go C okX9_mayCome [] 2 ?_
        refine zv_callS C (m_isIn K (s := s) (v := u) (by omega) (by omega)) (zw_S inX9_isIn kX9_58 ⟨by decide, by decide⟩) [] rfl rfl (fun _ => Nat.le_refl _) rfl rfl (by decide) dzX9_mayCome_25 (by decide) (by decide) rfl (fun _ _ => ?_)
        refine zv_to C rfl rfl (ws' := [mO A n cc, mZ K (A 1) Lf]) rfl ?_
        refine zv_go C okX9_mayCome [] 1 ?_
        refine ⟨fun q2 => ?_, fun q2 => ?_⟩
        · rw [bI_0] at q2
          refine zv_go C okX9_mayCome [46] 2 ?_
          exact join _ (by simp [bI, q1, q2])
        · rw [bI_1] at q2
          refine zv_go C okX9_mayCome [] 3 ?_
          refine zv_callV C (m_is K A n cc Lf (a := u) (b := v) (by omega)) (zw_V inX9_is kX9_46 ⟨by decide, by decide⟩) [0, 1] 0 rfl rfl rfl rfl (fun _ => Nat.le_refl _) rfl rfl (by decide) dzX9_mayCome_35 (by decide) (by decide) rfl (fun _ _ => ?_)
          refine zv_to C rfl rfl (ws' := [mO A n cc, mZ K (A 1) Lf]) rfl ?_
          refine zv_go C okX9_mayCome [] 1 ?_
          refine ⟨fun q3 => ?_, fun q3 => ?_⟩
          · rw [bI_1] at q3
            refine zv_go C okX9_mayCome [46] 1 ?_
            exact join _ (by simp [bI, q1, q2, q3])
          · rw [bI_0] at q3
            refine zv_go C okX9_mayCome [46] 2 ?_
            exact join _ (by simp [bI, q1, q2, q3])
  refine zv_go C okX9_mayCome [] 2 ?_
  refine zv_callS C (m_isIn K (s := s) (v := v) (by omega) (by omega)) (zw_S inX9_isIn kX9_58 ⟨by decide, by decide⟩) [] rfl rfl (fun _ => Nat.le_refl _) rfl rfl (by decide) dzX9_mayCome_2 (by decide) (by decide) rfl (fun _ _ => ?_)
  refine zv_to C rfl rfl (ws' := [mO A n cc, mZ K (A 1) Lf]) rfl ?_
  refine zv_go C okX9_mayCome [9] 20 ?_
  exact zv_to C (lv' := [(0, .ref (A 0)), (1, .int (nI v)), (2, .int (nI s)), (3, .int (bI (s.testBit v && allB (fun u => !(s.testBit u && Lf (16 * u + v))) 0))), (4, .int (nI 0))]) (by rw [allB.eq_1, Bool.and_true] <;> rfl) rfl rfl (loop n 0 (by omega))
def qabove (Lf : Nat → Bool) (n s v : Nat) : Bool := allB (fun u => (!s.testBit u || (decide (u = v) || Lf (16 * u + v)))) n
set_option maxHeartbeats 4000000 in
set_option maxRecDepth 100000 in
theorem m_above {s : Nat} (hs : s < 2 ^ 14) (hn : n ≤ 14) : zD K yX9_above cX9_above 6 (some .int) (zq 1 0 0 22) [.ref (A 0), .int (nI s)] [mO A n cc, mZ K (A 1) Lf] (some (.int (nI (setB (qabove Lf n s) n)))) [mO A n cc, mZ K (A 1) Lf] := by
  refine zo (by decide) (Nat.le_of_ble_eq_true rfl) fun x C R _ => ?_
  have loop : ∀ mm v (lv2 : zv_L), v + mm = n → (lv2 = [] ∨ ∃ z w, lv2 = [(4, .int z), (5, .int w)]) → zv_V x (gz K (zq 1 0 0 22) 6 cX9_above yX9_above.cls) 4 ([(0, .ref (A 0)), (1, .int (nI s)), (2, .int (nI (setB (qabove Lf n s) v))), (3, .int (nI v))] ++ lv2) [] [mO A n cc, mZ K (A 1) Lf] 0 0 := by
    intro mm
    induction mm with
    | zero =>
      intro v lv2 hv hl2
      have e : v = n := by omega
      refine zv_drop C [0, 1, 2, 3] (lv' := [(0, .ref (A 0)), (1, .int (nI s)), (2, .int (nI (setB (qabove Lf n s) v))), (3, .int (nI v))]) (by rcases hl2 with rfl | ⟨z, w, rfl⟩ <;> rfl) ?_
      subst e
      refine zv_go C okX9_above [] 20 ?_
      refine ⟨rfl, fun _ => ?_, fun h => absurd (nI_le (Nat.le_refl _) (by omega)) h⟩
      exact zr R () [0, 1] (some (.int _)) _ rfl rfl trivial rfl rfl (Nat.le_refl _) (Nat.le_refl _) dzX9_above_92
    | succ mm ih =>
      intro v lv2 hv hl2
      refine zv_drop C [0, 1, 2, 3] (lv' := [(0, .ref (A 0)), (1, .int (nI s)), (2, .int (nI (setB (qabove Lf n s) v))), (3, .int (nI v))]) (by rcases hl2 with rfl | ⟨z, w, rfl⟩ <;> rfl) ?_
      have inner : ∀ m2 u, u + m2 = n → zv_V x (gz K (zq 1 0 0 22) 6 cX9_above yX9_above.cls) 18 [(0, .ref (A 0)), (1, .int (nI s)), (2, .int (nI (setB (qabove Lf n s) v))), (3, .int (nI v)), (4, .int (bI (allB (fun u => (!s.testBit u || (decide (u = v) || Lf (16 * u + v)))) u))), (5, .int (nI u))] [] [mO A n cc, mZ K (A 1) Lf] 0 0 := by
        intro m2
        induction m2 with
        | zero =>
          intro u hu
          have e : n = u := by omega
          subst e
          generalize hg : (allB (fun u => (!s.testBit u || (decide (u = v) || Lf (16 * u + v)))) n) = g
          have hq : qabove Lf n s v = g := hg
          refine zv_go C okX9_above [4] 30 ?_
          refine ⟨rfl, fun _ => ⟨fun h => ?_, fun h => ?_⟩, fun h => absurd (nI_le (Nat.le_refl _) (by omega)) h⟩
          · rw [bI_0] at h
            refine zv_to C (lv' := [(0, .ref (A 0)), (1, .int (nI s)), (2, .int (nI (setB (qabove Lf n s) (v + 1)))), (3, .int (nI (v + 1))), (4, .int (bI (g))), (5, .int (nI n))]) ?_ rfl rfl (ih (v + 1) [_, _] (by omega) (Or.inr ⟨_, _, rfl⟩))
            rw [setB, hq, if_neg (by rw [h]; decide), ← nI_1, ← nb_or]
            rfl
          · rw [bI_1] at h
            refine zv_to C (lv' := [(0, .ref (A 0)), (1, .int (nI s)), (2, .int (nI (setB (qabove Lf n s) (v + 1)))), (3, .int (nI (v + 1))), (4, .int (bI (g))), (5, .int (nI n))]) ?_ rfl rfl (ih (v + 1) [_, _] (by omega) (Or.inr ⟨_, _, rfl⟩))
            rw [setB, hq, if_pos h, ← nI_1, ← nb_or, ← nb_1s v (by omega)]
            rfl
        | succ m2 ih2 =>
          intro u hu
          generalize hf : (allB (fun u => (!s.testBit u || (decide (u = v) || Lf (16 * u + v)))) u) = f
          have join : ∀ c : Int32, c = bI (f && (!s.testBit u || (decide (u = v) || Lf (16 * u + v)))) → zv_V x (gz K (zq 1 0 0 22) 6 cX9_above yX9_above.cls) 62 [(0, .ref (A 0)), (1, .int (nI s)), (2, .int (nI (setB (qabove Lf n s) v))), (3, .int (nI v)), (4, .int (bI (f))), (5, .int (nI u))] [.int c] [mO A n cc, mZ K (A 1) Lf] 0 0 := by
            intro c hc
            subst hc
            refine zv_go C okX9_above [18] 20 ?_
            refine zv_to C (lv' := [(0, .ref (A 0)), (1, .int (nI s)), (2, .int (nI (setB (qabove Lf n s) v))), (3, .int (nI v)), (4, .int (bI (allB (fun u => (!s.testBit u || (decide (u = v) || Lf (16 * u + v)))) (u + 1)))), (5, .int (nI (u + 1)))]) ?_ rfl rfl (ih2 (u + 1) (by omega))
            have e3 : (allB (fun u => (!s.testBit u || (decide (u = v) || Lf (16 * u + v)))) (u + 1)) = (f && (!s.testBit u || (decide (u = v) || Lf (16 * u + v)))) := by
              rw [← hf, allB]
            rw [e3, ← nI_1]
            rfl
          refine zv_go C okX9_above [] 4 ?_
          refine ⟨rfl, fun h => absurd h (nI_ge (by omega) (by omega)), fun _ => ?_⟩
          refine zv_go C okX9_above [] 2 ?_
          refine ⟨fun q1 => ?_, fun q1 => ?_⟩
          · rw [bI_0] at q1
            refine zv_go C okX9_above [62] 1 ?_
            exact join _ (by simp [bI, q1])
          · rw [bI_1] at q1
            refine zv_go C okX9_above [] 2 ?_
            refine zv_callS C (m_isIn K (s := s) (v := u) (by omega) (by omega)) (zw_S inX9_isIn kX9_58 ⟨by decide, by decide⟩) [] rfl rfl (fun _ => Nat.le_refl _) rfl rfl (by decide) dzX9_above_35 (by decide) (by decide) rfl (fun _ _ => ?_)
            refine zv_to C rfl rfl (ws' := [mO A n cc, mZ K (A 1) Lf]) rfl ?_
            refine zv_go C okX9_above [] 1 ?_
            refine ⟨fun q2 => ?_, fun q2 => ?_⟩
            · rw [bI_0] at q2
              refine zv_go C okX9_above [62] 2 ?_
              exact join _ (by simp [bI, q1, q2])
            · rw [bI_1] at q2
              refine zv_go C okX9_above [] 3 ?_
              refine ⟨fun q3 => ?_, fun q3 => ?_⟩
              · rw [nb_inj (by omega) (by omega)] at q3
                refine zv_go C okX9_above [62] 2 ?_
                exact join _ (by simp [bI, q1, q2, q3])
              · rw [nb_inj (by omega) (by omega)] at q3
                refine zv_go C okX9_above [] 3 ?_
                refine zv_callV C (m_is K A n cc Lf (a := u) (b := v) (by omega)) (zw_V inX9_is kX9_46 ⟨by decide, by decide⟩) [0, 1] 0 rfl rfl rfl rfl (fun _ => Nat.le_refl _) rfl rfl (by decide) dzX9_above_51 (by decide) (by decide) rfl (fun _ _ => ?_)
                refine zv_to C rfl rfl (ws' := [mO A n cc, mZ K (A 1) Lf]) rfl ?_
                refine zv_go C okX9_above [] 1 ?_
                refine ⟨fun q4 => ?_, fun q4 => ?_⟩
                · rw [bI_0] at q4
                  refine zv_go C okX9_above [62] 1 ?_
                  exact join _ (by simp [bI, q1, q2, q3, q4])
                · rw [bI_1] at q4
                  refine zv_go C okX9_above [62] 2 ?_
                  exact join _ (by simp [bI, q1, q2, q3, q4])
      refine zv_go C okX9_above [18] 20 ?_
      refine ⟨rfl, fun h => absurd h (nI_ge (by omega) (by omega)), fun _ => ?_⟩
      exact inner n 0 (by omega)
  refine zv_go C okX9_above [4] 20 ?_
  exact loop n 0 [] (by omega) (Or.inl rfl)
def qbelow (Lf : Nat → Bool) (n s v : Nat) : Bool := allB (fun u => (!s.testBit u || (decide (u = v) || Lf (16 * v + u)))) n
set_option maxHeartbeats 4000000 in
set_option maxRecDepth 100000 in
theorem m_below {s : Nat} (hs : s < 2 ^ 14) (hn : n ≤ 14) : zD K yX9_below cX9_below 6 (some .int) (zq 1 0 0 22) [.ref (A 0), .int (nI s)] [mO A n cc, mZ K (A 1) Lf] (some (.int (nI (setB (qbelow Lf n s) n)))) [mO A n cc, mZ K (A 1) Lf] := by
  refine zo (by decide) (Nat.le_of_ble_eq_true rfl) fun x C R _ => ?_
  have loop : ∀ mm v (lv2 : zv_L), v + mm = n → (lv2 = [] ∨ ∃ z w, lv2 = [(4, .int z), (5, .int w)]) → zv_V x (gz K (zq 1 0 0 22) 6 cX9_below yX9_below.cls) 4 ([(0, .ref (A 0)), (1, .int (nI s)), (2, .int (nI (setB (qbelow Lf n s) v))), (3, .int (nI v))] ++ lv2) [] [mO A n cc, mZ K (A 1) Lf] 0 0 := by
    intro mm
    induction mm with
    | zero =>
      intro v lv2 hv hl2
      have e : v = n := by omega
      refine zv_drop C [0, 1, 2, 3] (lv' := [(0, .ref (A 0)), (1, .int (nI s)), (2, .int (nI (setB (qbelow Lf n s) v))), (3, .int (nI v))]) (by rcases hl2 with rfl | ⟨z, w, rfl⟩ <;> rfl) ?_
      subst e
      refine zv_go C okX9_below [] 20 ?_
      refine ⟨rfl, fun _ => ?_, fun h => absurd (nI_le (Nat.le_refl _) (by omega)) h⟩
      exact zr R () [0, 1] (some (.int _)) _ rfl rfl trivial rfl rfl (Nat.le_refl _) (Nat.le_refl _) dzX9_below_92
    | succ mm ih =>
      intro v lv2 hv hl2
      refine zv_drop C [0, 1, 2, 3] (lv' := [(0, .ref (A 0)), (1, .int (nI s)), (2, .int (nI (setB (qbelow Lf n s) v))), (3, .int (nI v))]) (by rcases hl2 with rfl | ⟨z, w, rfl⟩ <;> rfl) ?_
      have inner : ∀ m2 u, u + m2 = n → zv_V x (gz K (zq 1 0 0 22) 6 cX9_below yX9_below.cls) 18 [(0, .ref (A 0)), (1, .int (nI s)), (2, .int (nI (setB (qbelow Lf n s) v))), (3, .int (nI v)), (4, .int (bI (allB (fun u => (!s.testBit u || (decide (u = v) || Lf (16 * v + u)))) u))), (5, .int (nI u))] [] [mO A n cc, mZ K (A 1) Lf] 0 0 := by
        intro m2
        induction m2 with
        | zero =>
          intro u hu
          have e : n = u := by omega
          subst e
          generalize hg : (allB (fun u => (!s.testBit u || (decide (u = v) || Lf (16 * v + u)))) n) = g
          have hq : qbelow Lf n s v = g := hg
          refine zv_go C okX9_below [4] 30 ?_
          refine ⟨rfl, fun _ => ⟨fun h => ?_, fun h => ?_⟩, fun h => absurd (nI_le (Nat.le_refl _) (by omega)) h⟩
          · rw [bI_0] at h
            refine zv_to C (lv' := [(0, .ref (A 0)), (1, .int (nI s)), (2, .int (nI (setB (qbelow Lf n s) (v + 1)))), (3, .int (nI (v + 1))), (4, .int (bI (g))), (5, .int (nI n))]) ?_ rfl rfl (ih (v + 1) [_, _] (by omega) (Or.inr ⟨_, _, rfl⟩))
            rw [setB, hq, if_neg (by rw [h]; decide), ← nI_1, ← nb_or]
            rfl
          · rw [bI_1] at h
            refine zv_to C (lv' := [(0, .ref (A 0)), (1, .int (nI s)), (2, .int (nI (setB (qbelow Lf n s) (v + 1)))), (3, .int (nI (v + 1))), (4, .int (bI (g))), (5, .int (nI n))]) ?_ rfl rfl (ih (v + 1) [_, _] (by omega) (Or.inr ⟨_, _, rfl⟩))
            rw [setB, hq, if_pos h, ← nI_1, ← nb_or, ← nb_1s v (by omega)]
            rfl
        | succ m2 ih2 =>
          intro u hu
          generalize hf : (allB (fun u => (!s.testBit u || (decide (u = v) || Lf (16 * v + u)))) u) = f
          have join : ∀ c : Int32, c = bI (f && (!s.testBit u || (decide (u = v) || Lf (16 * v + u)))) → zv_V x (gz K (zq 1 0 0 22) 6 cX9_below yX9_below.cls) 62 [(0, .ref (A 0)), (1, .int (nI s)), (2, .int (nI (setB (qbelow Lf n s) v))), (3, .int (nI v)), (4, .int (bI (f))), (5, .int (nI u))] [.int c] [mO A n cc, mZ K (A 1) Lf] 0 0 := by
            intro c hc
            subst hc
            refine zv_go C okX9_below [18] 20 ?_
            refine zv_to C (lv' := [(0, .ref (A 0)), (1, .int (nI s)), (2, .int (nI (setB (qbelow Lf n s) v))), (3, .int (nI v)), (4, .int (bI (allB (fun u => (!s.testBit u || (decide (u = v) || Lf (16 * v + u)))) (u + 1)))), (5, .int (nI (u + 1)))]) ?_ rfl rfl (ih2 (u + 1) (by omega))
            have e3 : (allB (fun u => (!s.testBit u || (decide (u = v) || Lf (16 * v + u)))) (u + 1)) = (f && (!s.testBit u || (decide (u = v) || Lf (16 * v + u)))) := by
              rw [← hf, allB]
            rw [e3, ← nI_1]
            rfl
          refine zv_go C okX9_below [] 4 ?_
          refine ⟨rfl, fun h => absurd h (nI_ge (by omega) (by omega)), fun _ => ?_⟩
          refine zv_go C okX9_below [] 2 ?_
          refine ⟨fun q1 => ?_, fun q1 => ?_⟩
          · rw [bI_0] at q1
            refine zv_go C okX9_below [62] 1 ?_
            exact join _ (by simp [bI, q1])
          · rw [bI_1] at q1
            refine zv_go C okX9_below [] 2 ?_
            refine zv_callS C (m_isIn K (s := s) (v := u) (by omega) (by omega)) (zw_S inX9_isIn kX9_58 ⟨by decide, by decide⟩) [] rfl rfl (fun _ => Nat.le_refl _) rfl rfl (by decide) dzX9_below_35 (by decide) (by decide) rfl (fun _ _ => ?_)
            refine zv_to C rfl rfl (ws' := [mO A n cc, mZ K (A 1) Lf]) rfl ?_
            refine zv_go C okX9_below [] 1 ?_
            refine ⟨fun q2 => ?_, fun q2 => ?_⟩
            · rw [bI_0] at q2
              refine zv_go C okX9_below [62] 2 ?_
              exact join _ (by simp [bI, q1, q2])
            · rw [bI_1] at q2
              refine zv_go C okX9_below [] 3 ?_
              refine ⟨fun q3 => ?_, fun q3 => ?_⟩
              · rw [nb_inj (by omega) (by omega)] at q3
                refine zv_go C okX9_below [62] 2 ?_
                exact join _ (by simp [bI, q1, q2, q3])
              · rw [nb_inj (by omega) (by omega)] at q3
                refine zv_go C okX9_below [] 3 ?_
                refine zv_callV C (m_is K A n cc Lf (a := v) (b := u) (by omega)) (zw_V inX9_is kX9_46 ⟨by decide, by decide⟩) [0, 1] 0 rfl rfl rfl rfl (fun _ => Nat.le_refl _) rfl rfl (by decide) dzX9_below_51 (by decide) (by decide) rfl (fun _ _ => ?_)
                refine zv_to C rfl rfl (ws' := [mO A n cc, mZ K (A 1) Lf]) rfl ?_
                refine zv_go C okX9_below [] 1 ?_
                refine ⟨fun q4 => ?_, fun q4 => ?_⟩
                · rw [bI_0] at q4
                  refine zv_go C okX9_below [62] 1 ?_
                  exact join _ (by simp [bI, q1, q2, q3, q4])
                · rw [bI_1] at q4
                  refine zv_go C okX9_below [62] 2 ?_
                  exact join _ (by simp [bI, q1, q2, q3, q4])
      refine zv_go C okX9_below [18] 20 ?_
      refine ⟨rfl, fun h => absurd h (nI_ge (by omega) (by omega)), fun _ => ?_⟩
      exact inner n 0 (by omega)
  refine zv_go C okX9_below [4] 20 ?_
  exact loop n 0 [] (by omega) (Or.inl rfl)
def qcovers (Lf : Nat → Bool) (n s v : Nat) : Bool := Lf (16 * s + v) && allB (fun u => !(Lf (16 * s + u) && Lf (16 * u + v))) n
set_option maxHeartbeats 4000000 in
set_option maxRecDepth 100000 in
theorem m_covers {s : Nat} (hs : s < n) (hn : n ≤ 14) : zD K yX9_covers cX9_covers 6 (some .int) (zq 1 0 0 22) [.ref (A 0), .int (nI s)] [mO A n cc, mZ K (A 1) Lf] (some (.int (nI (setB (qcovers Lf n s) n)))) [mO A n cc, mZ K (A 1) Lf] := by
  refine zo (by decide) (Nat.le_of_ble_eq_true rfl) fun x C R _ => ?_
  have loop : ∀ mm v (lv2 : zv_L), v + mm = n → (lv2 = [] ∨ ∃ z w, lv2 = [(4, .int z), (5, .int w)]) → zv_V x (gz K (zq 1 0 0 22) 6 cX9_covers yX9_covers.cls) 14 ([(0, .ref (A 0)), (1, .int (nI s)), (2, .int (nI (setB (qcovers Lf n s) v))), (3, .int (nI v))] ++ lv2) [] [mO A n cc, mZ K (A 1) Lf] 0 0 := by
    intro mm
    induction mm with
    | zero =>
      intro v lv2 hv hl2
      have e : v = n := by omega
      refine zv_drop C [0, 1, 2, 3] (lv' := [(0, .ref (A 0)), (1, .int (nI s)), (2, .int (nI (setB (qcovers Lf n s) v))), (3, .int (nI v))]) (by rcases hl2 with rfl | ⟨z, w, rfl⟩ <;> rfl) ?_
      subst e
      refine zv_go C okX9_covers [] 20 ?_
      refine ⟨rfl, fun _ => ?_, fun h => absurd (nI_le (Nat.le_refl _) (by omega)) h⟩
      exact zr R () [0, 1] (some (.int _)) _ rfl rfl trivial rfl rfl (Nat.le_refl _) (Nat.le_refl _) dzX9_covers_102
    | succ mm ih =>
      intro v lv2 hv hl2
      refine zv_drop C [0, 1, 2, 3] (lv' := [(0, .ref (A 0)), (1, .int (nI s)), (2, .int (nI (setB (qcovers Lf n s) v))), (3, .int (nI v))]) (by rcases hl2 with rfl | ⟨z, w, rfl⟩ <;> rfl) ?_
      have inner : ∀ m2 u, u + m2 = n → zv_V x (gz K (zq 1 0 0 22) 6 cX9_covers yX9_covers.cls) 33 [(0, .ref (A 0)), (1, .int (nI s)), (2, .int (nI (setB (qcovers Lf n s) v))), (3, .int (nI v)), (4, .int (bI (Lf (16 * s + v) && allB (fun u => !(Lf (16 * s + u) && Lf (16 * u + v))) u))), (5, .int (nI u))] [] [mO A n cc, mZ K (A 1) Lf] 0 0 := by
        intro m2
        induction m2 with
        | zero =>
          intro u hu
          have e : n = u := by omega
          subst e
          generalize hg : (Lf (16 * s + v) && allB (fun u => !(Lf (16 * s + u) && Lf (16 * u + v))) n) = g
          have hq : qcovers Lf n s v = g := hg
          refine zv_go C okX9_covers [14] 30 ?_
          refine ⟨rfl, fun _ => ⟨fun h => ?_, fun h => ?_⟩, fun h => absurd (nI_le (Nat.le_refl _) (by omega)) h⟩
          · rw [bI_0] at h
            refine zv_to C (lv' := [(0, .ref (A 0)), (1, .int (nI s)), (2, .int (nI (setB (qcovers Lf n s) (v + 1)))), (3, .int (nI (v + 1))), (4, .int (bI (g))), (5, .int (nI n))]) ?_ rfl rfl (ih (v + 1) [_, _] (by omega) (Or.inr ⟨_, _, rfl⟩))
            rw [setB, hq, if_neg (by rw [h]; decide), ← nI_1, ← nb_or]
            rfl
          · rw [bI_1] at h
            refine zv_to C (lv' := [(0, .ref (A 0)), (1, .int (nI s)), (2, .int (nI (setB (qcovers Lf n s) (v + 1)))), (3, .int (nI (v + 1))), (4, .int (bI (g))), (5, .int (nI n))]) ?_ rfl rfl (ih (v + 1) [_, _] (by omega) (Or.inr ⟨_, _, rfl⟩))
            rw [setB, hq, if_pos h, ← nI_1, ← nb_or, ← nb_1s v (by omega)]
            rfl
        | succ m2 ih2 =>
          intro u hu
          generalize hf : (Lf (16 * s + v) && allB (fun u => !(Lf (16 * s + u) && Lf (16 * u + v))) u) = f
          have join : ∀ c : Int32, c = bI (f && !(Lf (16 * s + u) && Lf (16 * u + v))) → zv_V x (gz K (zq 1 0 0 22) 6 cX9_covers yX9_covers.cls) 72 [(0, .ref (A 0)), (1, .int (nI s)), (2, .int (nI (setB (qcovers Lf n s) v))), (3, .int (nI v)), (4, .int (bI (f))), (5, .int (nI u))] [.int c] [mO A n cc, mZ K (A 1) Lf] 0 0 := by
            intro c hc
            subst hc
            refine zv_go C okX9_covers [33] 20 ?_
            refine zv_to C (lv' := [(0, .ref (A 0)), (1, .int (nI s)), (2, .int (nI (setB (qcovers Lf n s) v))), (3, .int (nI v)), (4, .int (bI (Lf (16 * s + v) && allB (fun u => !(Lf (16 * s + u) && Lf (16 * u + v))) (u + 1)))), (5, .int (nI (u + 1)))]) ?_ rfl rfl (ih2 (u + 1) (by omega))
            have e3 : (Lf (16 * s + v) && allB (fun u => !(Lf (16 * s + u) && Lf (16 * u + v))) (u + 1)) = (f && !(Lf (16 * s + u) && Lf (16 * u + v))) := by
              rw [← hf, allB, ← Bool.and_assoc]
            rw [e3, ← nI_1]
            rfl
          refine zv_go C okX9_covers [] 4 ?_
          refine ⟨rfl, fun h => absurd h (nI_ge (by omega) (by omega)), fun _ => ?_⟩
          refine zv_go C okX9_covers [] 2 ?_
          refine ⟨fun q1 => ?_, fun q1 => ?_⟩
          · rw [bI_0] at q1
            refine zv_go C okX9_covers [72] 1 ?_
            exact join _ (by simp [bI, q1])
          · rw [bI_1] at q1
            refine zv_go C okX9_covers [] 3 ?_
            refine zv_callV C (m_is K A n cc Lf (a := s) (b := u) (by omega)) (zw_V inX9_is kX9_46 ⟨by decide, by decide⟩) [0, 1] 0 rfl rfl rfl rfl (fun _ => Nat.le_refl _) rfl rfl (by decide) dzX9_covers_51 (by decide) (by decide) rfl (fun _ _ => ?_)
            refine zv_to C rfl rfl (ws' := [mO A n cc, mZ K (A 1) Lf]) rfl ?_
            refine zv_go C okX9_covers [] 1 ?_
            refine ⟨fun q2 => ?_, fun q2 => ?_⟩
            · rw [bI_0] at q2
              refine zv_go C okX9_covers [72] 2 ?_
              exact join _ (by simp [bI, q1, q2])
            · rw [bI_1] at q2
              refine zv_go C okX9_covers [] 3 ?_
              refine zv_callV C (m_is K A n cc Lf (a := u) (b := v) (by omega)) (zw_V inX9_is kX9_46 ⟨by decide, by decide⟩) [0, 1] 0 rfl rfl rfl rfl (fun _ => Nat.le_refl _) rfl rfl (by decide) dzX9_covers_61 (by decide) (by decide) rfl (fun _ _ => ?_)
              refine zv_to C rfl rfl (ws' := [mO A n cc, mZ K (A 1) Lf]) rfl ?_
              refine zv_go C okX9_covers [] 1 ?_
              refine ⟨fun q3 => ?_, fun q3 => ?_⟩
              · rw [bI_1] at q3
                refine zv_go C okX9_covers [72] 1 ?_
                exact join _ (by simp [bI, q1, q2, q3])
              · rw [bI_0] at q3
                refine zv_go C okX9_covers [72] 2 ?_
                exact join _ (by simp [bI, q1, q2, q3])
      refine zv_go C okX9_covers [] 7 ?_
      refine ⟨rfl, fun h => absurd h (nI_ge (by omega) (by omega)), fun _ => ?_⟩
      refine zv_callV C (m_is K A n cc Lf (a := s) (b := v) (by omega)) (zw_V inX9_is kX9_46 ⟨by decide, by decide⟩) [0, 1] 0 rfl rfl rfl rfl (fun _ => Nat.le_refl _) rfl rfl (by decide) dzX9_covers_25 (by decide) (by decide) rfl (fun _ _ => ?_)
      refine zv_to C rfl rfl (ws' := [mO A n cc, mZ K (A 1) Lf]) rfl ?_
      refine zv_go C okX9_covers [33] 20 ?_
      exact zv_to C (lv' := [(0, .ref (A 0)), (1, .int (nI s)), (2, .int (nI (setB (qcovers Lf n s) v))), (3, .int (nI v)), (4, .int (bI (Lf (16 * s + v) && allB (fun u => !(Lf (16 * s + u) && Lf (16 * u + v))) 0))), (5, .int (nI 0))]) (by rw [allB.eq_1, Bool.and_true] <;> rfl) rfl rfl (inner n 0 (by omega))
  refine zv_go C okX9_covers [] 2 ?_
  refine zv_callV C (m_has K A n cc (nI s)) (zw_V inX9_has kX9_42 ⟨by decide, by decide⟩) [0] 0 rfl rfl rfl rfl (fun _ => Nat.le_refl _) rfl rfl (by decide) dzX9_covers_2 (by decide) (by decide) rfl (fun _ _ => ?_)
  refine zv_to C rfl rfl (ws' := [mO A n cc, mZ K (A 1) Lf]) rfl ?_
  refine zv_go C okX9_covers [14] 20 ?_
  refine ⟨fun h => ?_, fun h => ?_⟩
  · exact loop n 0 [] (by omega) (Or.inl rfl)
  · rw [bI_0, hasb_nI (by omega) (by omega), decide_eq_false_iff_not] at h
    exact absurd hs h
end MB
end
section
/-! THE MODEL: close, put, free, isBelow -/
def updB (f : Nat → Bool) (k : Nat) (b : Bool) : Nat → Bool := fun j => if j = k then b else f j
theorem updB_bI (f : Nat → Bool) (k : Nat) (b : Bool) : upd (fun j => bI (f j)) k (bI b) = fun j => bI (updB f k b j) := by
  funext j
  unfold updB
  by_cases e : j = k
  · rw [e, pk_us, if_pos rfl]
  · rw [pk_un e, if_neg e]
def ckB (x y z : Nat) (σ : (Nat → Bool) × Bool) : (Nat → Bool) × Bool := if (σ.1 (16 * x + y) && (σ.1 (16 * y + z) && !σ.1 (16 * x + z))) = true then (updB σ.1 (16 * x + z) true, true) else σ
def czB (x y : Nat) (σ : (Nat → Bool) × Bool) : Nat → (Nat → Bool) × Bool
  | 0 => σ
  | z + 1 => ckB x y z (czB x y σ z)
def cyB (n x : Nat) (σ : (Nat → Bool) × Bool) : Nat → (Nat → Bool) × Bool
  | 0 => σ
  | y + 1 => czB x y (cyB n x σ y) n
def cxB (n : Nat) (σ : (Nat → Bool) × Bool) : Nat → (Nat → Bool) × Bool
  | 0 => σ
  | x + 1 => cyB n x (cxB n σ x) n
def clW (n : Nat) : Nat → (Nat → Bool) → (Nat → Bool)
  | 0, f => f
  | d + 1, f => if (cxB n (f, false) n).2 = true then clW n d (cxB n (f, false) n).1 else (cxB n (f, false) n).1
/-- how many are true among the first k -/
def cT (f : Nat → Bool) : Nat → Nat
  | 0 => 0
  | k + 1 => cT f k + (f k).toNat
theorem cT_le (f : Nat → Bool) : ∀ k, cT f k ≤ k
  | 0 => Nat.le_refl _
  | k + 1 => by
    have h := cT_le f k
    unfold cT
    cases f k <;> simp <;> omega
theorem cT_up {f : Nat → Bool} {i : Nat} (hf : f i = false) : ∀ k, cT (updB f i true) k = cT f k + (decide (i < k)).toNat
  | 0 => by simp [cT]
  | k + 1 => by
    have h := cT_up hf k
    unfold cT
    rw [h]
    unfold updB
    by_cases e : k = i
    · subst e
      rw [if_pos rfl, hf]
      simp
    · rw [if_neg e]
      by_cases e2 : i < k
      · simp [e2, Nat.lt_succ_of_lt e2]; omega
      · have e3 : ¬ i < k + 1 := by omega
        simp [e2, e3]
/-- a run of steps only adds, and tells of it -/
def gB (σ τ : (Nat → Bool) × Bool) : Prop := cT σ.1 256 ≤ cT τ.1 256 ∧ (τ.2 = true → σ.2 = true ∨ cT σ.1 256 < cT τ.1 256)
theorem gB_rf (σ : (Nat → Bool) × Bool) : gB σ σ := ⟨Nat.le_refl _, fun h => Or.inl h⟩
theorem gB_tr {a b c : (Nat → Bool) × Bool} (h1 : gB a b) (h2 : gB b c) : gB a c := by
  refine ⟨Nat.le_trans h1.1 h2.1, fun h => ?_⟩
  rcases h2.2 h with h3 | h3
  · rcases h1.2 h3 with h4 | h4
    · exact Or.inl h4
    · exact Or.inr (Nat.lt_of_lt_of_le h4 h2.1)
  · exact Or.inr (Nat.lt_of_le_of_lt h1.1 h3)
theorem gB_ck {x y z : Nat} (h : 16 * x + z < 256) (σ : (Nat → Bool) × Bool) : gB σ (ckB x y z σ) := by
  unfold ckB
  split
  · rename_i hc
    simp only [Bool.and_eq_true, Bool.not_eq_true'] at hc
    have h1 := cT_up hc.2.2 256
    rw [decide_eq_true h] at h1
    have h2 : cT σ.1 256 < cT (updB σ.1 (16 * x + z) true) 256 := by rw [h1]; simp
    exact ⟨Nat.le_of_lt h2, fun _ => Or.inr h2⟩
  · exact gB_rf σ
theorem gB_cz {x y : Nat} (hx : x < 14) (σ : (Nat → Bool) × Bool) : ∀ z, z ≤ 14 → gB σ (czB x y σ z)
  | 0, _ => gB_rf σ
  | z + 1, h => gB_tr (gB_cz hx σ z (by omega)) (gB_ck (by omega) _)
theorem gB_cy {n x : Nat} (hn : n ≤ 14) (hx : x < 14) (σ : (Nat → Bool) × Bool) : ∀ y, gB σ (cyB n x σ y)
  | 0 => gB_rf σ
  | y + 1 => gB_tr (gB_cy hn hx σ y) (gB_cz hx _ n hn)
theorem gB_cx {n : Nat} (hn : n ≤ 14) (σ : (Nat → Bool) × Bool) : ∀ x, x ≤ 14 → gB σ (cxB n σ x)
  | 0, _ => gB_rf σ
  | x + 1, h => gB_tr (gB_cx hn σ x (by omega)) (gB_cy hn (by omega) _ n)
section MC
variable (K : zK) (A : Nat → Nat) (n : Nat) (cc : Int32)
set_option maxHeartbeats 4000000 in
set_option maxRecDepth 100000 in
theorem m_close (r : Nat) (f0 : Nat → Bool) (hn : n ≤ 14) : zD K yX9_close cX9_close 6 none (zq 0 0 0 0) [.ref (A 0), .ref r] [mO A n cc, mZ K r f0] none [mO A n cc, mZ K r (clW n 257 f0)] := by
  refine zo (by decide) (Nat.le_of_ble_eq_true rfl) fun x C R _ => ?_
  have lz : ∀ (a b : Nat), a < n → b < n → ∀ (σ0 : (Nat → Bool) × Bool), (∀ τ : (Nat → Bool) × Bool, τ = czB a b σ0 n → zv_V x (gz K (zq 0 0 0 0) 6 cX9_close yX9_close.cls) 97 [(0, .ref (A 0)), (1, .ref r), (2, .int (bI τ.2)), (3, .int (nI a)), (4, .int (nI b)), (5, .int (nI n))] [] [mO A n cc, mZ K r τ.1] 0 0) → ∀ m c (τ : (Nat → Bool) × Bool), c + m = n → τ = czB a b σ0 c → zv_V x (gz K (zq 0 0 0 0) 6 cX9_close yX9_close.cls) 33 [(0, .ref (A 0)), (1, .ref r), (2, .int (bI τ.2)), (3, .int (nI a)), (4, .int (nI b)), (5, .int (nI c))] [] [mO A n cc, mZ K r τ.1] 0 0 := by
    intro a b ha hb σ0 hk m
    induction m with
    | zero =>
      intro c τ hc hτ
      have e : c = n := by omega
      subst e
      refine zv_go C okX9_close [97] 20 ?_
      refine ⟨rfl, fun _ => ?_, fun h => absurd (nI_le (Nat.le_refl _) (by omega)) h⟩
      exact hk τ hτ
    | succ m ih =>
      intro c τ hc hτ
      have i1 : ((16 : Int32) * nI a + nI b).toNatClampNeg = 16 * a + b := by rw [nb_16]; exact nI_clamp (by omega)
      have i2 : ((16 : Int32) * nI b + nI c).toNatClampNeg = 16 * b + c := by rw [nb_16]; exact nI_clamp (by omega)
      have i3 : ((16 : Int32) * nI a + nI c).toNatClampNeg = 16 * a + c := by rw [nb_16]; exact nI_clamp (by omega)
      have v1 : vp_in ((16 : Int32) * nI a + nI b) 256 := by rw [nb_16]; exact vp_in_nI (by omega) (by decide)
      have v2 : vp_in ((16 : Int32) * nI b + nI c) 256 := by rw [nb_16]; exact vp_in_nI (by omega) (by decide)
      have v3 : vp_in ((16 : Int32) * nI a + nI c) 256 := by rw [nb_16]; exact vp_in_nI (by omega) (by decide)
      have stay : (τ.1 (16 * a + b) && (τ.1 (16 * b + c) && !τ.1 (16 * a + c))) = false → τ = czB a b σ0 (c + 1) := by
        intro hno
        show τ = ckB a b c (czB a b σ0 c)
        rw [← hτ]
        unfold ckB
        rw [if_neg (by rw [hno]; decide)]
      have nxt := fun e => zv_to C (lv' := [(0, .ref (A 0)), (1, .ref r), (2, .int (bI τ.2)), (3, .int (nI a)), (4, .int (nI b)), (5, .int (nI (c + 1)))]) (lv := [(0, .ref (A 0)), (1, .ref r), (2, .int (bI τ.2)), (3, .int (nI a)), (4, .int (nI b)), (5, .int (nI c + 1))]) (by rw [← nI_1]) rfl rfl (ih (c + 1) τ (by omega) e)
      refine zv_go C okX9_close [33] 60 ?_
      refine ⟨rfl, fun h => absurd h (nI_ge (by omega) (by omega)), fun _ => ⟨⟨rfl, rfl⟩, v1, fun h1 => ?_, fun h1 => ⟨⟨rfl, rfl⟩, v2, fun h2 => ?_, fun h2 => ⟨⟨rfl, rfl⟩, v3, fun h3 => ?_, fun h3 => ⟨⟨rfl, rfl⟩, v3, ?_⟩⟩⟩⟩⟩
      · have h1 : bI (τ.1 ((16 : Int32) * nI a + nI b).toNatClampNeg) = 0 := h1
        rw [i1, bI_0] at h1
        exact nxt (stay (by rw [h1]; rfl))
      · have h2 : bI (τ.1 ((16 : Int32) * nI b + nI c).toNatClampNeg) = 0 := h2
        rw [i2, bI_0] at h2
        exact nxt (stay (by rw [h2]; simp))
      · have h3 : ¬ bI (τ.1 ((16 : Int32) * nI a + nI c).toNatClampNeg) = 0 := h3
        rw [i3, bI_1] at h3
        exact nxt (stay (by rw [h3]; simp))
      · have h1 : ¬ bI (τ.1 ((16 : Int32) * nI a + nI b).toNatClampNeg) = 0 := h1
        have h2 : ¬ bI (τ.1 ((16 : Int32) * nI b + nI c).toNatClampNeg) = 0 := h2
        have h3 : bI (τ.1 ((16 : Int32) * nI a + nI c).toNatClampNeg) = 0 := h3
        rw [i1, bI_1] at h1
        rw [i2, bI_1] at h2
        rw [i3, bI_0] at h3
        refine zv_to C (lv' := [(0, .ref (A 0)), (1, .ref r), (2, .int (bI true)), (3, .int (nI a)), (4, .int (nI b)), (5, .int (nI (c + 1)))]) (by rw [← nI_1] <;> rfl) rfl (ws' := [mO A n cc, mZ K r (updB τ.1 (16 * a + c) true)]) ?_ (ih (c + 1) (updB τ.1 (16 * a + c) true, true) (by omega) ?_)
        · show [_, (r, Sum.inl (cZ K, 256, Sum.inl (upd (fun k => bI (τ.1 k)) ((16 : Int32) * nI a + nI c).toNatClampNeg (vp_nar .boolean 1))))] = _
          rw [i3, bI_n1, updB_bI]
        · show _ = ckB a b c (czB a b σ0 c)
          rw [← hτ]
          unfold ckB
          rw [if_pos (by rw [h1, h2, h3]; rfl)]
  have ly : ∀ (a : Nat), a < n → ∀ (σ0 : (Nat → Bool) × Bool), (∀ (τ : (Nat → Bool) × Bool) (lv2 : zv_L), τ = cyB n a σ0 n → (lv2 = [] ∨ ∃ z, lv2 = [(5, .int z)]) → zv_V x (gz K (zq 0 0 0 0) 6 cX9_close yX9_close.cls) 103 ([(0, .ref (A 0)), (1, .ref r), (2, .int (bI τ.2)), (3, .int (nI a)), (4, .int (nI n))] ++ lv2) [] [mO A n cc, mZ K r τ.1] 0 0) → ∀ m b (τ : (Nat → Bool) × Bool) (lv2 : zv_L), b + m = n → τ = cyB n a σ0 b → (lv2 = [] ∨ ∃ z, lv2 = [(5, .int z)]) → zv_V x (gz K (zq 0 0 0 0) 6 cX9_close yX9_close.cls) 21 ([(0, .ref (A 0)), (1, .ref r), (2, .int (bI τ.2)), (3, .int (nI a)), (4, .int (nI b))] ++ lv2) [] [mO A n cc, mZ K r τ.1] 0 0 := by
    intro a ha σ0 hk m
    induction m with
    | zero =>
      intro b τ lv2 hb hτ hl2
      have e : b = n := by omega
      refine zv_drop C [0, 1, 2, 3, 4] (lv' := [(0, .ref (A 0)), (1, .ref r), (2, .int (bI τ.2)), (3, .int (nI a)), (4, .int (nI b))]) (by rcases hl2 with rfl | ⟨z, rfl⟩ <;> rfl) ?_
      subst e
      refine zv_go C okX9_close [103] 20 ?_
      refine ⟨rfl, fun _ => ?_, fun h => absurd (nI_le (Nat.le_refl _) (by omega)) h⟩
      exact hk τ [] hτ (Or.inl rfl)
    | succ m ih =>
      intro b τ lv2 hb hτ hl2
      refine zv_drop C [0, 1, 2, 3, 4] (lv' := [(0, .ref (A 0)), (1, .ref r), (2, .int (bI τ.2)), (3, .int (nI a)), (4, .int (nI b))]) (by rcases hl2 with rfl | ⟨z, rfl⟩ <;> rfl) ?_
      refine zv_go C okX9_close [33] 20 ?_
      refine ⟨rfl, fun h => absurd h (nI_ge (by omega) (by omega)), fun _ => ?_⟩
      refine lz a b ha (by omega) τ (fun ρ hρ => ?_) n 0 τ (by omega) rfl
      refine zv_go C okX9_close [21] 20 ?_
      exact zv_to C (lv' := [(0, .ref (A 0)), (1, .ref r), (2, .int (bI ρ.2)), (3, .int (nI a)), (4, .int (nI (b + 1))), (5, .int (nI n))]) (by rw [← nI_1] <;> rfl) rfl rfl (ih (b + 1) ρ [_] (by omega) (by rw [hρ, hτ]; rfl) (Or.inr ⟨_, rfl⟩))
  have lx : ∀ (σ0 : (Nat → Bool) × Bool), (∀ (τ : (Nat → Bool) × Bool) (lv2 : zv_L), τ = cxB n σ0 n → (lv2 = [] ∨ (∃ z, lv2 = [(4, .int z)]) ∨ ∃ z w, lv2 = [(4, .int z), (5, .int w)]) → zv_V x (gz K (zq 0 0 0 0) 6 cX9_close yX9_close.cls) 109 ([(0, .ref (A 0)), (1, .ref r), (2, .int (bI τ.2)), (3, .int (nI n))] ++ lv2) [] [mO A n cc, mZ K r τ.1] 0 0) → ∀ m a (τ : (Nat → Bool) × Bool) (lv2 : zv_L), a + m = n → τ = cxB n σ0 a → (lv2 = [] ∨ (∃ z, lv2 = [(4, .int z)]) ∨ ∃ z w, lv2 = [(4, .int z), (5, .int w)]) → zv_V x (gz K (zq 0 0 0 0) 6 cX9_close yX9_close.cls) 10 ([(0, .ref (A 0)), (1, .ref r), (2, .int (bI τ.2)), (3, .int (nI a))] ++ lv2) [] [mO A n cc, mZ K r τ.1] 0 0 := by
    intro σ0 hk m
    induction m with
    | zero =>
      intro a τ lv2 ha hτ hl2
      have e : a = n := by omega
      refine zv_drop C [0, 1, 2, 3] (lv' := [(0, .ref (A 0)), (1, .ref r), (2, .int (bI τ.2)), (3, .int (nI a))]) (by rcases hl2 with rfl | ⟨z, rfl⟩ | ⟨z, w, rfl⟩ <;> rfl) ?_
      subst e
      refine zv_go C okX9_close [109] 20 ?_
      refine ⟨rfl, fun _ => ?_, fun h => absurd (nI_le (Nat.le_refl _) (by omega)) h⟩
      exact hk τ [] hτ (Or.inl rfl)
    | succ m ih =>
      intro a τ lv2 ha hτ hl2
      refine zv_drop C [0, 1, 2, 3] (lv' := [(0, .ref (A 0)), (1, .ref r), (2, .int (bI τ.2)), (3, .int (nI a))]) (by rcases hl2 with rfl | ⟨z, rfl⟩ | ⟨z, w, rfl⟩ <;> rfl) ?_
      refine zv_go C okX9_close [21] 20 ?_
      refine ⟨rfl, fun h => absurd h (nI_ge (by omega) (by omega)), fun _ => ?_⟩
      refine ly a (by omega) τ (fun ρ lv3 hρ hl3 => ?_) n 0 τ [] (by omega) rfl (Or.inl rfl)
      refine zv_drop C [0, 1, 2, 3, 4] (lv' := [(0, .ref (A 0)), (1, .ref r), (2, .int (bI ρ.2)), (3, .int (nI a)), (4, .int (nI n))]) (by rcases hl3 with rfl | ⟨z, rfl⟩ <;> rfl) ?_
      refine zv_go C okX9_close [10] 20 ?_
      exact zv_to C (lv' := [(0, .ref (A 0)), (1, .ref r), (2, .int (bI ρ.2)), (3, .int (nI (a + 1))), (4, .int (nI n))]) (by rw [← nI_1] <;> rfl) rfl rfl (ih (a + 1) ρ [_] (by omega) (by rw [hρ, hτ]; rfl) (Or.inr (Or.inl ⟨_, rfl⟩)))
  have lw : ∀ d (f : Nat → Bool) (lv2 : zv_L), 256 - cT f 256 < d → clW n d f = clW n 257 f0 → (lv2 = [] ∨ ∃ z, lv2 = [(3, .int z)]) → zv_V x (gz K (zq 0 0 0 0) 6 cX9_close yX9_close.cls) 2 ([(0, .ref (A 0)), (1, .ref r), (2, .int (bI true))] ++ lv2) [] [mO A n cc, mZ K r f] 0 0 := by
    intro d
    induction d with
    | zero => intro f lv2 h; exact absurd h (Nat.not_lt_zero _)
    | succ d ih =>
      intro f lv2 hd he hl2
      refine zv_drop C [0, 1, 2] (lv' := [(0, .ref (A 0)), (1, .ref r), (2, .int (bI true))]) (by rcases hl2 with rfl | ⟨z, rfl⟩ <;> rfl) ?_
      refine zv_go C okX9_close [10] 20 ?_
      refine ⟨fun h => absurd h (by decide), fun _ => ?_⟩
      refine lx (f, false) (fun τ lv3 hτ hl3 => ?_) n 0 (f, false) [] (by omega) rfl (Or.inl rfl)
      have hg := gB_cx hn (f, false) n hn
      rw [← hτ] at hg
      rw [clW, ← hτ] at he
      refine zv_drop C [0, 1, 2, 3] (lv' := [(0, .ref (A 0)), (1, .ref r), (2, .int (bI τ.2)), (3, .int (nI n))]) (by rcases hl3 with rfl | ⟨z, rfl⟩ | ⟨z, w, rfl⟩ <;> rfl) ?_
      refine zv_go C okX9_close [2] 1 ?_
      cases hm : τ.2 with
      | true =>
        rw [hm, if_pos rfl] at he
        have hlt : cT f 256 < cT τ.1 256 := (hg.2 hm).elim (fun z => by cases z) id
        have hle := cT_le τ.1 256
        exact ih τ.1 [(3, .int (nI n))] (by omega) he (Or.inr ⟨_, rfl⟩)
      | false =>
        rw [hm, if_neg (by decide)] at he
        refine zv_go C okX9_close [] 3 ?_
        refine ⟨fun _ => ?_, fun h => absurd rfl h⟩
        exact zr R () [0, 1] none _ rfl (by rw [← he]) trivial rfl rfl (Nat.le_refl _) (Nat.le_refl _) dzX9_close_112
  refine zv_go C okX9_close [2] 2 ?_
  exact lw 257 f0 [] (by omega) rfl (Or.inl rfl)
end MC
end
section
/-! THE MODEL: put, free, isBelow -/
theorem zl {P : Nat → Prop} (n : Nat) (h0 : P n) (hs : ∀ k, k < n → P (k + 1) → P k) : ∀ k, k ≤ n → P k := by
  intro k hk
  obtain ⟨d, rfl⟩ : ∃ d, n = k + d := ⟨n - k, by omega⟩
  induction d generalizing k with
  | zero => exact h0
  | succ d ih => exact hs k (by omega) (ih (k + 1) (by rw [Nat.add_right_comm]; exact h0) (fun j hj => hs j (by omega)) (by omega))
section MD
variable (K : zK) (A : Nat → Nat) (n : Nat) (cc : Int32) (Lf : Nat → Bool)
set_option maxHeartbeats 4000000 in
set_option maxRecDepth 100000 in
theorem m_put_no (a b : Int32) (h : hasb n a = false ∨ hasb n b = false ∨ a = b ∨ ∃ i j, i < n ∧ j < n ∧ a = nI i ∧ b = nI j ∧ Lf (16 * j + i) = true) (hn : n ≤ 14) : zD K yX9_put cX9_put 4 (some .int) (zq 2 0 0 80) [.ref (A 0), .int a, .int b] [mO A n cc, mZ K (A 1) Lf] (some (.int (-1))) [mO A n cc, mZ K (A 1) Lf] := by
  refine zo (by decide) (Nat.le_of_ble_eq_true rfl) fun x C R _ => ?_
  refine zv_go C okX9_put [] 40 ?_
  refine zv_callV C (m_has K A n cc a) (zw_V inX9_has kX9_42 ⟨by decide, by decide⟩) [0] 0 rfl rfl rfl rfl (fun _ => Nat.le_refl _) rfl rfl (by decide) dzX9_put_2 (by decide) (by decide) rfl (fun _ _ => ?_)
  refine zv_to C rfl rfl (ws' := [mO A n cc, mZ K (A 1) Lf]) rfl ?_
  refine zv_go C okX9_put [] 40 ?_
  refine ⟨fun h1 => ?_, fun h1 => ?_⟩
  · refine zv_go C okX9_put [] 40 ?_
    exact zr R () [0, 1] (some (.int (-1))) _ rfl rfl trivial rfl rfl (Nat.zero_le _) (Nat.zero_le _) dzX9_put_31
  rw [bI_1] at h1
  refine zv_callV C (m_has K A n cc b) (zw_V inX9_has kX9_42 ⟨by decide, by decide⟩) [0] 0 rfl rfl rfl rfl (fun _ => Nat.le_refl _) rfl rfl (by decide) dzX9_put_10 (by decide) (by decide) rfl (fun _ _ => ?_)
  refine zv_to C rfl rfl (ws' := [mO A n cc, mZ K (A 1) Lf]) rfl ?_
  refine zv_go C okX9_put [] 40 ?_
  refine ⟨fun h2 => ?_, fun h2 => ⟨fun h3 => ?_, fun h3 => ?_⟩⟩
  · refine zv_go C okX9_put [] 40 ?_
    exact zr R () [0, 1] (some (.int (-1))) _ rfl rfl trivial rfl rfl (Nat.zero_le _) (Nat.zero_le _) dzX9_put_31
  · refine zv_go C okX9_put [] 40 ?_
    exact zr R () [0, 1] (some (.int (-1))) _ rfl rfl trivial rfl rfl (Nat.zero_le _) (Nat.zero_le _) dzX9_put_31
  rw [bI_1] at h2
  rcases h with h | h | h | ⟨i, j, hi, hj, rfl, rfl, h⟩
  · rw [h] at h1; cases h1
  · rw [h] at h2; cases h2
  · exact absurd h h3
  · refine zv_callV C (m_is K A n cc Lf (a := j) (b := i) (by omega)) (zw_V inX9_is kX9_46 ⟨by decide, by decide⟩) [0, 1] 0 rfl rfl rfl rfl (fun _ => Nat.le_refl _) rfl rfl (by decide) dzX9_put_24 (by decide) (by decide) rfl (fun _ _ => ?_)
    refine zv_to C rfl rfl (ws' := [mO A n cc, mZ K (A 1) Lf]) rfl ?_
    refine zv_go C okX9_put [] 40 ?_
    refine ⟨fun h4 => ?_, fun h4 => ?_⟩
    · rw [bI_0, h] at h4; cases h4
    · exact zr R () [0, 1] (some (.int (-1))) _ rfl rfl trivial rfl rfl (Nat.zero_le _) (Nat.zero_le _) dzX9_put_31
set_option maxHeartbeats 4000000 in
set_option maxRecDepth 100000 in
theorem m_put {i j : Nat} (hi : i < n) (hj : j < n) (hn : n ≤ 14) (hij : i ≠ j) (hno : Lf (16 * j + i) = false) : zD K yX9_put cX9_put 4 (some .int) (zq 2 0 0 80) [.ref (A 0), .int (nI i), .int (nI j)] [mO A n cc, mZ K (A 1) Lf] (some (.int (nI (mPs (clW n 257 (updB Lf (16 * i + j) true)) n n) - nI (mPs Lf n n)))) [mO A n cc, mZ K (A 1) (clW n 257 (updB Lf (16 * i + j) true))] := by
  refine zo (by decide) (Nat.le_of_ble_eq_true rfl) fun x C R _ => ?_
  refine zv_go C okX9_put [] 40 ?_
  refine zv_callV C (m_has K A n cc (nI i)) (zw_V inX9_has kX9_42 ⟨by decide, by decide⟩) [0] 0 rfl rfl rfl rfl (fun _ => Nat.le_refl _) rfl rfl (by decide) dzX9_put_2 (by decide) (by decide) rfl (fun _ _ => ?_)
  refine zv_to C rfl rfl (ws' := [mO A n cc, mZ K (A 1) Lf]) rfl ?_
  refine zv_go C okX9_put [] 40 ?_
  refine ⟨fun h1 => ?_, fun h1 => ?_⟩
  · rw [bI_0, hasb_nI (by omega) (by omega), decide_eq_false_iff_not] at h1; exact absurd hi h1
  refine zv_callV C (m_has K A n cc (nI j)) (zw_V inX9_has kX9_42 ⟨by decide, by decide⟩) [0] 0 rfl rfl rfl rfl (fun _ => Nat.le_refl _) rfl rfl (by decide) dzX9_put_10 (by decide) (by decide) rfl (fun _ _ => ?_)
  refine zv_to C rfl rfl (ws' := [mO A n cc, mZ K (A 1) Lf]) rfl ?_
  refine zv_go C okX9_put [] 40 ?_
  refine ⟨fun h1 => ?_, fun h1 => ⟨fun h3 => ?_, fun h3 => ?_⟩⟩
  · rw [bI_0, hasb_nI (by omega) (by omega), decide_eq_false_iff_not] at h1; exact absurd hj h1
  · exact absurd ((nb_inj (by omega) (by omega)).mp h3) hij
  refine zv_callV C (m_is K A n cc Lf (a := j) (b := i) (by omega)) (zw_V inX9_is kX9_46 ⟨by decide, by decide⟩) [0, 1] 0 rfl rfl rfl rfl (fun _ => Nat.le_refl _) rfl rfl (by decide) dzX9_put_24 (by decide) (by decide) rfl (fun _ _ => ?_)
  refine zv_to C rfl rfl (ws' := [mO A n cc, mZ K (A 1) Lf]) rfl ?_
  refine zv_go C okX9_put [] 40 ?_
  refine ⟨fun h4 => ?_, fun h4 => ?_⟩
  · refine zv_callV C (m_pairs K A n cc Lf hn) (zw_V inX9_pairs kX9_50 ⟨by decide, by decide⟩) [0, 1] 0 rfl rfl rfl rfl (fun _ => Nat.le_refl _) rfl rfl (by decide) dzX9_put_33 (by decide) (by decide) rfl (fun _ _ => ?_)
    refine zv_to C rfl rfl (ws' := [mO A n cc, mZ K (A 1) Lf]) rfl ?_
    refine zv_go C okX9_put [] 40 ?_
    refine ⟨rfl, ⟨rfl, rfl⟩, ?_, rfl, ?_⟩
    · show vp_in ((16 : Int32) * nI i + nI j) 256
      rw [nb_16]; exact vp_in_nI (by omega) (by decide)
    have e : ((16 : Int32) * nI i + nI j).toNatClampNeg = 16 * i + j := by rw [nb_16]; exact nI_clamp (by omega)
    refine zv_to C rfl rfl (ws' := [mO A n cc, mZ K (A 1) (updB Lf (16 * i + j) true)]) ?_ ?_
    · show [_, (A 1, Sum.inl (cZ K, 256, Sum.inl (upd (fun k => bI (Lf k)) ((16 : Int32) * nI i + nI j).toNatClampNeg (vp_nar .boolean 1))))] = _
      rw [e, bI_n1, updB_bI]
    refine zv_callV C (m_close K A n cc (r := A 1) (f0 := updB Lf (16 * i + j) true) hn) (zw_V inX9_close kX9_54 ⟨by decide, by decide⟩) [0, 1] 0 rfl rfl rfl rfl (fun _ => Nat.le_refl _) rfl rfl (by decide) dzX9_put_54 (by decide) (by decide) rfl (fun _ _ => ?_)
    refine zv_to C rfl rfl (ws' := [mO A n cc, mZ K (A 1) (clW n 257 (updB Lf (16 * i + j) true))]) rfl ?_
    refine zv_go C okX9_put [] 40 ?_
    refine zv_callV C (m_pairs K A n cc (clW n 257 (updB Lf (16 * i + j) true)) hn) (zw_V inX9_pairs kX9_50 ⟨by decide, by decide⟩) [0, 1] 0 rfl rfl rfl rfl (fun _ => Nat.le_refl _) rfl rfl (by decide) dzX9_put_58 (by decide) (by decide) rfl (fun _ _ => ?_)
    refine zv_to C rfl rfl (ws' := [mO A n cc, mZ K (A 1) (clW n 257 (updB Lf (16 * i + j) true))]) rfl ?_
    refine zv_go C okX9_put [] 40 ?_
    exact zr R () [0, 1] (some (.int _)) _ rfl rfl trivial rfl rfl (Nat.zero_le _) (Nat.zero_le _) dzX9_put_63
  · rw [bI_1, hno] at h4; cases h4
set_option maxHeartbeats 4000000 in
set_option maxRecDepth 100000 in
theorem m_free_no (a : Int32) (h : hasb n a = false) : zD K yX9_free cX9_free 4 (some .int) (zq 2 0 0 80) [.ref (A 0), .int a] [mO A n cc, mZ K (A 1) Lf] (some (.int (-1))) [mO A n cc, mZ K (A 1) Lf] := by
  refine zo (by decide) (Nat.le_of_ble_eq_true rfl) fun x C R _ => ?_
  refine zv_go C okX9_free [] 40 ?_
  refine zv_callV C (m_has K A n cc a) (zw_V inX9_has kX9_42 ⟨by decide, by decide⟩) [0] 0 rfl rfl rfl rfl (fun _ => Nat.le_refl _) rfl rfl (by decide) dzX9_free_2 (by decide) (by decide) rfl (fun _ _ => ?_)
  refine zv_to C rfl rfl (ws' := [mO A n cc, mZ K (A 1) Lf]) rfl ?_
  refine zv_go C okX9_free [] 40 ?_
  refine ⟨fun h1 => ?_, fun h1 => ?_⟩
  · rw [bI_1, h] at h1; cases h1
  · exact zr R () [0, 1] (some (.int (-1))) _ rfl rfl trivial rfl rfl (Nat.zero_le _) (Nat.zero_le _) dzX9_free_9
/-- the table when the rows and columns of v below k are taken out -/
def frB (v : Nat) (f : Nat → Bool) : Nat → Nat → Bool
  | 0 => f
  | k + 1 => updB (updB (frB v f k) (16 * k + v) false) (16 * v + k) false
set_option maxHeartbeats 4000000 in
set_option maxRecDepth 100000 in
theorem m_free {v : Nat} (hv : v < n) (hn : n ≤ 14) : zD K yX9_free cX9_free 4 (some .int) (zq 2 0 0 80) [.ref (A 0), .int (nI v)] [mO A n cc, mZ K (A 1) Lf] (some (.int (nI (mPs Lf n n) - nI (mPs (frB v Lf n) n n)))) [mO A n cc, mZ K (A 1) (frB v Lf n)] := by
  refine zo (by decide) (Nat.le_of_ble_eq_true rfl) fun x C R _ => ?_
  have loop : ∀ k, k ≤ n → zv_V x (gz K (zq 2 0 0 80) 4 cX9_free yX9_free.cls) 17 [(0, .ref (A 0)), (1, .int (nI v)), (2, .int (nI (mPs Lf n n))), (3, .int (nI k))] [] [mO A n cc, mZ K (A 1) (frB v Lf k)] 0 0 := by
    refine zl n ?_ fun k hk ih => ?_
    · refine zv_go C okX9_free [] 40 ?_
      refine ⟨rfl, fun _ => ?_, fun h => absurd (nI_le (Nat.le_refl _) (by omega)) h⟩
      refine zv_callV C (m_pairs K A n cc (frB v Lf n) hn) (zw_V inX9_pairs kX9_50 ⟨by decide, by decide⟩) [0, 1] 0 rfl rfl rfl rfl (fun _ => Nat.le_refl _) (rest := [.int (nI (mPs Lf n n))]) rfl rfl (Nat.le_of_ble_eq_true rfl) dzX9_free_57 (by decide) (by decide) rfl (fun _ _ => ?_)
      refine zv_to C rfl rfl (ws' := [mO A n cc, mZ K (A 1) (frB v Lf n)]) rfl ?_
      refine zv_go C okX9_free [] 40 ?_
      exact zr R () [0, 1] (some (.int _)) _ rfl rfl trivial rfl rfl (Nat.zero_le _) (Nat.zero_le _) dzX9_free_61
    · have e1 : ((16 : Int32) * nI k + nI v).toNatClampNeg = 16 * k + v := by rw [nb_16]; exact nI_clamp (by omega)
      have e2 : ((16 : Int32) * nI v + nI k).toNatClampNeg = 16 * v + k := by rw [nb_16]; exact nI_clamp (by omega)
      have v1 : vp_in ((16 : Int32) * nI k + nI v) 256 := by rw [nb_16]; exact vp_in_nI (by omega) (by decide)
      have v2 : vp_in ((16 : Int32) * nI v + nI k) 256 := by rw [nb_16]; exact vp_in_nI (by omega) (by decide)
      refine zv_go C okX9_free [17] 40 ?_
      refine ⟨rfl, fun h => absurd h (nI_ge (by omega) (by omega)), fun _ => ⟨rfl, ⟨rfl, rfl⟩, v1, rfl, ⟨rfl, rfl⟩, v2, ?_⟩⟩
      refine zv_to C (lv' := [(0, .ref (A 0)), (1, .int (nI v)), (2, .int (nI (mPs Lf n n))), (3, .int (nI (k + 1)))]) (by rw [← nI_1] <;> rfl) rfl (ws' := [mO A n cc, mZ K (A 1) (frB v Lf (k + 1))]) ?_ ih
      show [_, (A 1, Sum.inl (cZ K, 256, Sum.inl (upd (upd (fun j => bI (frB v Lf k j)) ((16 : Int32) * nI k + nI v).toNatClampNeg (vp_nar .boolean 0)) ((16 : Int32) * nI v + nI k).toNatClampNeg (vp_nar .boolean 0))))] = _
      rw [e1, e2, bI_n0, updB_bI, updB_bI]
      rfl
  refine zv_go C okX9_free [] 40 ?_
  refine zv_callV C (m_has K A n cc (nI v)) (zw_V inX9_has kX9_42 ⟨by decide, by decide⟩) [0] 0 rfl rfl rfl rfl (fun _ => Nat.le_refl _) rfl rfl (by decide) dzX9_free_2 (by decide) (by decide) rfl (fun _ _ => ?_)
  refine zv_to C rfl rfl (ws' := [mO A n cc, mZ K (A 1) Lf]) rfl ?_
  refine zv_go C okX9_free [] 40 ?_
  refine ⟨fun h1 => ?_, fun h1 => ?_⟩
  · refine zv_callV C (m_pairs K A n cc Lf hn) (zw_V inX9_pairs kX9_50 ⟨by decide, by decide⟩) [0, 1] 0 rfl rfl rfl rfl (fun _ => Nat.le_refl _) rfl rfl (by decide) dzX9_free_11 (by decide) (by decide) rfl (fun _ _ => ?_)
    refine zv_to C rfl rfl (ws' := [mO A n cc, mZ K (A 1) Lf]) rfl ?_
    refine zv_go C okX9_free [17] 12 ?_
    exact loop 0 (Nat.zero_le _)
  · rw [bI_0, hasb_nI (by omega) (by omega), decide_eq_false_iff_not] at h1; exact absurd hv h1
set_option maxHeartbeats 4000000 in
set_option maxRecDepth 100000 in
theorem m_isBelow_no (a b : Int32) (h : hasb n a = false ∨ hasb n b = false) : zD K yX9_isBelow cX9_isBelow 3 (some .boolean) (zq 1 0 0 40) [.ref (A 0), .int a, .int b] [mO A n cc, mZ K (A 1) Lf] (some (.int 0)) [mO A n cc, mZ K (A 1) Lf] := by
  refine zo (by decide) (Nat.le_of_ble_eq_true rfl) fun x C R _ => ?_
  refine zv_go C okX9_isBelow [] 40 ?_
  refine zv_callV C (m_has K A n cc a) (zw_V inX9_has kX9_42 ⟨by decide, by decide⟩) [0] 0 rfl rfl rfl rfl (fun _ => Nat.le_refl _) rfl rfl (by decide) dzX9_isBelow_2 (by decide) (by decide) rfl (fun _ _ => ?_)
  refine zv_to C rfl rfl (ws' := [mO A n cc, mZ K (A 1) Lf]) rfl ?_
  refine zv_go C okX9_isBelow [] 40 ?_
  refine ⟨fun h1 => ?_, fun h1 => ?_⟩
  · refine zv_go C okX9_isBelow [] 40 ?_
    exact zr R () [0, 1] (some (.int 0)) _ rfl rfl trivial rfl rfl (Nat.zero_le _) (Nat.zero_le _) ⟨rfl, dzX9_isBelow_30⟩
  refine zv_callV C (m_has K A n cc b) (zw_V inX9_has kX9_42 ⟨by decide, by decide⟩) [0] 0 rfl rfl rfl rfl (fun _ => Nat.le_refl _) rfl rfl (by decide) dzX9_isBelow_10 (by decide) (by decide) rfl (fun _ _ => ?_)
  refine zv_to C rfl rfl (ws' := [mO A n cc, mZ K (A 1) Lf]) rfl ?_
  refine zv_go C okX9_isBelow [] 40 ?_
  refine ⟨fun h2 => ?_, fun h2 => ?_⟩
  · refine zv_go C okX9_isBelow [] 40 ?_
    exact zr R () [0, 1] (some (.int 0)) _ rfl rfl trivial rfl rfl (Nat.zero_le _) (Nat.zero_le _) ⟨rfl, dzX9_isBelow_30⟩
  rw [bI_1] at h1 h2
  rcases h with h | h
  · rw [h] at h1; cases h1
  · rw [h] at h2; cases h2
set_option maxHeartbeats 4000000 in
set_option maxRecDepth 100000 in
theorem m_isBelow {i j : Nat} (hi : i < n) (hj : j < n) (hn : n ≤ 14) : zD K yX9_isBelow cX9_isBelow 3 (some .boolean) (zq 1 0 0 40) [.ref (A 0), .int (nI i), .int (nI j)] [mO A n cc, mZ K (A 1) Lf] (some (.int (bI (Lf (16 * i + j))))) [mO A n cc, mZ K (A 1) Lf] := by
  refine zo (by decide) (Nat.le_of_ble_eq_true rfl) fun x C R _ => ?_
  refine zv_go C okX9_isBelow [] 40 ?_
  refine zv_callV C (m_has K A n cc (nI i)) (zw_V inX9_has kX9_42 ⟨by decide, by decide⟩) [0] 0 rfl rfl rfl rfl (fun _ => Nat.le_refl _) rfl rfl (by decide) dzX9_isBelow_2 (by decide) (by decide) rfl (fun _ _ => ?_)
  refine zv_to C rfl rfl (ws' := [mO A n cc, mZ K (A 1) Lf]) rfl ?_
  refine zv_go C okX9_isBelow [] 40 ?_
  refine ⟨fun h1 => ?_, fun h1 => ?_⟩
  · rw [bI_0, hasb_nI (by omega) (by omega), decide_eq_false_iff_not] at h1; exact absurd hi h1
  refine zv_callV C (m_has K A n cc (nI j)) (zw_V inX9_has kX9_42 ⟨by decide, by decide⟩) [0] 0 rfl rfl rfl rfl (fun _ => Nat.le_refl _) rfl rfl (by decide) dzX9_isBelow_10 (by decide) (by decide) rfl (fun _ _ => ?_)
  refine zv_to C rfl rfl (ws' := [mO A n cc, mZ K (A 1) Lf]) rfl ?_
  refine zv_go C okX9_isBelow [] 40 ?_
  refine ⟨fun h1 => ?_, fun h1 => ?_⟩
  · rw [bI_0, hasb_nI (by omega) (by omega), decide_eq_false_iff_not] at h1; exact absurd hj h1
  refine zv_callV C (m_is K A n cc Lf (a := i) (b := j) (by omega)) (zw_V inX9_is kX9_46 ⟨by decide, by decide⟩) [0, 1] 0 rfl rfl rfl rfl (fun _ => Nat.le_refl _) rfl rfl (by decide) dzX9_isBelow_19 (by decide) (by decide) rfl (fun _ _ => ?_)
  refine zv_to C rfl rfl (ws' := [mO A n cc, mZ K (A 1) Lf]) rfl ?_
  refine zv_go C okX9_isBelow [] 40 ?_
  refine ⟨fun h1 => ?_, fun h1 => ?_⟩
  · rw [bI_0] at h1
    exact zr R () [0, 1] (some (.int 0)) _ (by rw [h1] <;> rfl) rfl trivial rfl rfl (Nat.zero_le _) (Nat.zero_le _) ⟨rfl, dzX9_isBelow_30⟩
  · rw [bI_1] at h1
    exact zr R () [0, 1] (some (.int 1)) _ (by rw [h1] <;> rfl) rfl trivial rfl rfl (Nat.zero_le _) (Nat.zero_le _) ⟨rfl, dzX9_isBelow_30⟩
set_option maxHeartbeats 4000000 in
set_option maxRecDepth 100000 in
theorem m_covers_no (a : Int32) (h : hasb n a = false) : zD K yX9_covers cX9_covers 6 (some .int) (zq 1 0 0 22) [.ref (A 0), .int a] [mO A n cc, mZ K (A 1) Lf] (some (.int (-1))) [mO A n cc, mZ K (A 1) Lf] := by
  refine zo (by decide) (Nat.le_of_ble_eq_true rfl) fun x C R _ => ?_
  refine zv_go C okX9_covers [] 40 ?_
  refine zv_callV C (m_has K A n cc a) (zw_V inX9_has kX9_42 ⟨by decide, by decide⟩) [0] 0 rfl rfl rfl rfl (fun _ => Nat.le_refl _) rfl rfl (by decide) dzX9_covers_2 (by decide) (by decide) rfl (fun _ _ => ?_)
  refine zv_to C rfl rfl (ws' := [mO A n cc, mZ K (A 1) Lf]) rfl ?_
  refine zv_go C okX9_covers [] 40 ?_
  refine ⟨fun h1 => ?_, fun h1 => ?_⟩
  · rw [bI_1, h] at h1; cases h1
  · exact zr R () [0, 1] (some (.int (-1))) _ rfl rfl trivial rfl rfl (Nat.zero_le _) (Nat.zero_le _) dzX9_covers_9
end MD
end
section
/-! THE MODEL: findOrders, rows, before, places -/
def lasB (f : Nat → Bool) (n s v : Nat) : Bool := s.testBit v && allB (fun u => !(s.testBit u && f (16 * v + u))) n
def foI (f : Nat → Bool) (n s : Nat) (g : Nat → Int64) : Nat → Int64
  | 0 => 0
  | v + 1 => foI f n s g v + (if lasB f n s v = true then g (ndf s (2 ^ v)) else 0)
def foS (f : Nat → Bool) (n : Nat) (g : Nat → Int64) : Nat → (Nat → Int64)
  | 0 => vp_updL g 0 1
  | k + 1 => vp_updL (foS f n g k) (k + 1) (foI f n (k + 1) (foS f n g k) n)
/-- the orders when all sets are done -/
def foA (f : Nat → Bool) (n : Nat) (g : Nat → Int64) : Nat → Int64 := foS f n g (2 ^ n - 1)
theorem uL_s {f : Nat → Int64} {k : Nat} {x : Int64} : vp_updL f k x k = x := if_pos rfl
theorem uL_n {f : Nat → Int64} {k j : Nat} {x : Int64} (h : j ≠ k) : vp_updL f k x j = f j := if_neg h
theorem uL_2 (f : Nat → Int64) (k : Nat) (x y : Int64) : vp_updL (vp_updL f k x) k y = vp_updL f k y := by
  funext j
  unfold vp_updL
  by_cases h : j = k
  · rw [if_pos h, if_pos h]
  · rw [if_neg h, if_neg h, if_neg h]
theorem nb_clr (s v : Nat) (hv : v < 32) : nI s &&& ((1 : Int32) <<< (nI v &&& 31) ^^^ (-1)) = nI (ndf s (2 ^ v)) := by
  rw [nb_1s v hv, nb_not]
theorem nb_clr_ne {s v : Nat} (h : s.testBit v = true) : ndf s (2 ^ v) ≠ s := by
  intro e
  have h2 := ndf_tb s (2 ^ v) v
  rw [e, h, Nat.testBit_two_pow_self] at h2
  cases h2
section ME
variable (K : zK) (A : Nat → Nat) (n : Nat) (cc : Int32)
set_option maxHeartbeats 4000000 in
set_option maxRecDepth 100000 in
theorem m_findOrders (f : Nat → Bool) (r : Nat) (g0 : Nat → Int64) (hn : n ≤ 14) : zD K yX9_findOrders cX9_findOrders 6 none (zq 1 0 0 40) [.ref (A 0), .ref r] [mO A n cc, mZ K r f, mJ K (A 3) g0] none [mO A n cc, mZ K r f, mJ K (A 3) (foA f n g0)] := by
  refine zo (by decide) (Nat.le_of_ble_eq_true rfl) fun x C R _ => ?_
  have hp : 0 < 2 ^ n := Nat.two_pow_pos n
  have hp14 := pow_le14 hn
  have inner : ∀ k v, k + 1 < 2 ^ n → v < n → (zv_V x (gz K (zq 1 0 0 40) 6 cX9_findOrders yX9_findOrders.cls) 92 [(0, .ref (A 0)), (1, .ref r), (2, .int (nI (k + 1))), (3, .int (nI v)), (4, .int (bI (lasB f n (k + 1) v))), (5, .int (nI n))] [] [mO A n cc, mZ K r f, mJ K (A 3) (vp_updL (foS f n g0 k) (k + 1) (foI f n (k + 1) (foS f n g0 k) v))] 0 0) → ∀ u, u ≤ n → zv_V x (gz K (zq 1 0 0 40) 6 cX9_findOrders yX9_findOrders.cls) 44 [(0, .ref (A 0)), (1, .ref r), (2, .int (nI (k + 1))), (3, .int (nI v)), (4, .int (bI ((k + 1).testBit v && allB (fun u => !((k + 1).testBit u && f (16 * v + u))) u))), (5, .int (nI u))] [] [mO A n cc, mZ K r f, mJ K (A 3) (vp_updL (foS f n g0 k) (k + 1) (foI f n (k + 1) (foS f n g0 k) v))] 0 0 := by
    intro k v hk hv hend
    refine zl n ?_ fun u hu ih => ?_
    · refine zv_go C okX9_findOrders [92] 10 ?_
      refine ⟨rfl, fun _ => ?_, fun h => absurd (nI_le (Nat.le_refl _) (by omega)) h⟩
      exact hend
    · generalize hf : ((k + 1).testBit v && allB (fun u => !((k + 1).testBit u && f (16 * v + u))) u) = b
      have join : ∀ c : Int32, c = bI (b && !((k + 1).testBit u && f (16 * v + u))) → zv_V x (gz K (zq 1 0 0 40) 6 cX9_findOrders yX9_findOrders.cls) 84 [(0, .ref (A 0)), (1, .ref r), (2, .int (nI (k + 1))), (3, .int (nI v)), (4, .int (bI (b))), (5, .int (nI u))] [.int c] [mO A n cc, mZ K r f, mJ K (A 3) (vp_updL (foS f n g0 k) (k + 1) (foI f n (k + 1) (foS f n g0 k) v))] 0 0 := by
        intro c hc
        subst hc
        refine zv_go C okX9_findOrders [44] 10 ?_
        refine zv_to C (lv' := [(0, .ref (A 0)), (1, .ref r), (2, .int (nI (k + 1))), (3, .int (nI v)), (4, .int (bI ((k + 1).testBit v && allB (fun u => !((k + 1).testBit u && f (16 * v + u))) (u + 1)))), (5, .int (nI (u + 1)))]) ?_ rfl rfl ih
        have e3 : ((k + 1).testBit v && allB (fun u => !((k + 1).testBit u && f (16 * v + u))) (u + 1)) = (b && !((k + 1).testBit u && f (16 * v + u))) := by rw [← hf, allB, ← Bool.and_assoc]
        rw [e3, ← nI_1 u]
        rfl
      have e1 : ((16 : Int32) * nI v + nI u).toNatClampNeg = 16 * v + u := by rw [nb_16]; exact nI_clamp (by omega)
      have v1 : vp_in ((16 : Int32) * nI v + nI u) 256 := by rw [nb_16]; exact vp_in_nI (by omega) (by decide)
      refine zv_go C okX9_findOrders [84] 20 ?_
      refine ⟨rfl, fun h => absurd h (nI_ge (by omega) (by omega)), fun _ => ⟨fun h1 => ?_, fun h1 => ?_⟩⟩
      · rw [bI_0] at h1
        exact join _ (by simp [bI, h1])
      · rw [bI_1] at h1
        refine zv_callS C (m_isIn K (s := k + 1) (v := u) (by omega) (by omega)) (zw_S inX9_isIn kX9_58 ⟨by decide, by decide⟩) [] rfl rfl (fun _ => Nat.le_refl _) rfl rfl (by decide) dzX9_findOrders_61 (by decide) (by decide) rfl (fun _ _ => ?_)
        refine zv_to C rfl rfl (ws' := [mO A n cc, mZ K r f, mJ K (A 3) (vp_updL (foS f n g0 k) (k + 1) (foI f n (k + 1) (foS f n g0 k) v))]) rfl ?_
        refine zv_go C okX9_findOrders [84] 20 ?_
        refine ⟨fun h2 => ?_, fun h2 => ⟨⟨rfl, rfl⟩, v1, fun h3 => ?_, fun h3 => ?_⟩⟩
        · rw [bI_0] at h2
          exact join _ (by simp [bI, h1, h2])
        · have h3 : ¬ bI (f ((16 : Int32) * nI v + nI u).toNatClampNeg) = 0 := h3
          rw [bI_1] at h2
          rw [e1, bI_1] at h3
          exact join _ (by simp [bI, h1, h2, h3])
        · have h3 : bI (f ((16 : Int32) * nI v + nI u).toNatClampNeg) = 0 := h3
          rw [bI_1] at h2
          rw [e1, bI_0] at h3
          exact join _ (by simp [bI, h1, h2, h3])
  have mid : ∀ k, k + 1 < 2 ^ n → (zv_V x (gz K (zq 1 0 0 40) 6 cX9_findOrders yX9_findOrders.cls) 9 [(0, .ref (A 0)), (1, .ref r), (2, .int (nI (k + 2)))] [] [mO A n cc, mZ K r f, mJ K (A 3) (foS f n g0 (k + 1))] 0 0) → ∀ v, v ≤ n → zv_V x (gz K (zq 1 0 0 40) 6 cX9_findOrders yX9_findOrders.cls) 26 [(0, .ref (A 0)), (1, .ref r), (2, .int (nI (k + 1))), (3, .int (nI v))] [] [mO A n cc, mZ K r f, mJ K (A 3) (vp_updL (foS f n g0 k) (k + 1) (foI f n (k + 1) (foS f n g0 k) v))] 0 0 := by
    intro k hk hend
    refine zl n ?_ fun v hv ih => ?_
    · refine zv_go C okX9_findOrders [9] 20 ?_
      refine ⟨rfl, fun _ => ?_, fun h => absurd (nI_le (Nat.le_refl _) (by omega)) h⟩
      refine zv_drop C [0, 1, 2] (lv' := [(0, .ref (A 0)), (1, .ref r), (2, .int (nI (k + 2)))]) (by rw [← nI_1 (k + 1)] <;> rfl) ?_
      exact hend
    · have kl : (nI (k + 1)).toNatClampNeg = k + 1 := nI_clamp (by omega)
      have kin : vp_in (nI (k + 1)) 16384 := vp_in_nI (by omega) (by decide)
      have ec : nI (k + 1) &&& ((1 : Int32) <<< (nI v &&& 31) ^^^ (-1)) = nI (ndf (k + 1) (2 ^ v)) := nb_clr _ _ (by omega)
      have hle := ndf_le (k + 1) (2 ^ v)
      refine zv_go C okX9_findOrders [] 20 ?_
      refine ⟨rfl, fun h => absurd h (nI_ge (by omega) (by omega)), fun _ => ?_⟩
      refine zv_callS C (m_isIn K (s := k + 1) (v := v) (by omega) (by omega)) (zw_S inX9_isIn kX9_58 ⟨by decide, by decide⟩) [] rfl rfl (fun _ => Nat.le_refl _) rfl rfl (by decide) dzX9_findOrders_36 (by decide) (by decide) rfl (fun _ _ => ?_)
      refine zv_to C rfl rfl (ws' := [mO A n cc, mZ K r f, mJ K (A 3) (vp_updL (foS f n g0 k) (k + 1) (foI f n (k + 1) (foS f n g0 k) v))]) rfl ?_
      refine zv_go C okX9_findOrders [44] 20 ?_
      refine zv_to C (lv' := [(0, .ref (A 0)), (1, .ref r), (2, .int (nI (k + 1))), (3, .int (nI v)), (4, .int (bI ((k + 1).testBit v && allB (fun u => !((k + 1).testBit u && f (16 * v + u))) 0))), (5, .int (nI 0))]) (by rw [allB.eq_1, Bool.and_true] <;> rfl) rfl rfl (inner k v hk hv ?_ 0 (Nat.zero_le _))
      refine zv_go C okX9_findOrders [26] 40 ?_
      refine ⟨rfl, ⟨rfl, rfl⟩, kin, fun h => ⟨⟨rfl, rfl⟩, kin, ?_⟩, fun h => ⟨rfl, ⟨rfl, rfl⟩, ?_, ⟨rfl, rfl⟩, kin, ?_⟩⟩
      · rw [bI_0] at h
        refine zv_drop C [0, 1, 2, 3] (lv' := [(0, .ref (A 0)), (1, .ref r), (2, .int (nI (k + 1))), (3, .int (nI (v + 1)))]) (by rw [← nI_1 v] <;> rfl) ?_
        refine zv_to C rfl rfl (ws' := [mO A n cc, mZ K r f, mJ K (A 3) (vp_updL (foS f n g0 k) (k + 1) (foI f n (k + 1) (foS f n g0 k) (v + 1)))]) ?_ ih
        show [_, _, (A 3, Sum.inl (cJ K, 16384, Sum.inr (Sum.inl (vp_updL (vp_updL (foS f n g0 k) (k + 1) (foI f n (k + 1) (foS f n g0 k) v)) (nI (k + 1)).toNatClampNeg (vp_updL (foS f n g0 k) (k + 1) (foI f n (k + 1) (foS f n g0 k) v) (nI (k + 1)).toNatClampNeg + 0)))))] = _
        rw [kl, uL_2, uL_s, foI, h]
        rfl
      · show vp_in (nI (k + 1) &&& ((1 : Int32) <<< (nI v &&& 31) ^^^ (-1))) 16384
        rw [ec]
        exact vp_in_nI (by omega) (by decide)
      · rw [bI_1] at h
        have hb : (k + 1).testBit v = true := by
          unfold lasB at h
          rw [Bool.and_eq_true] at h
          exact h.1
        have ecl : (nI (k + 1) &&& ((1 : Int32) <<< (nI v &&& 31) ^^^ (-1))).toNatClampNeg = ndf (k + 1) (2 ^ v) := by rw [ec]; exact nI_clamp (by omega)
        refine zv_drop C [0, 1, 2, 3] (lv' := [(0, .ref (A 0)), (1, .ref r), (2, .int (nI (k + 1))), (3, .int (nI (v + 1)))]) (by rw [← nI_1 v] <;> rfl) ?_
        refine zv_to C rfl rfl (ws' := [mO A n cc, mZ K r f, mJ K (A 3) (vp_updL (foS f n g0 k) (k + 1) (foI f n (k + 1) (foS f n g0 k) (v + 1)))]) ?_ ih
        show [_, _, (A 3, Sum.inl (cJ K, 16384, Sum.inr (Sum.inl (vp_updL (vp_updL (foS f n g0 k) (k + 1) (foI f n (k + 1) (foS f n g0 k) v)) (nI (k + 1)).toNatClampNeg (vp_updL (foS f n g0 k) (k + 1) (foI f n (k + 1) (foS f n g0 k) v) (nI (k + 1)).toNatClampNeg + vp_updL (foS f n g0 k) (k + 1) (foI f n (k + 1) (foS f n g0 k) v) (nI (k + 1) &&& ((1 : Int32) <<< (nI v &&& 31) ^^^ (-1))).toNatClampNeg)))))] = _
        rw [kl, ecl, uL_2, uL_s, uL_n (nb_clr_ne hb), foI, if_pos h]
  have outer : ∀ k, k ≤ 2 ^ n - 1 → zv_V x (gz K (zq 1 0 0 40) 6 cX9_findOrders yX9_findOrders.cls) 9 [(0, .ref (A 0)), (1, .ref r), (2, .int (nI (k + 1)))] [] [mO A n cc, mZ K r f, mJ K (A 3) (foS f n g0 k)] 0 0 := by
    refine zl (2 ^ n - 1) ?_ fun k hk ih => ?_
    · refine zv_go C okX9_findOrders [] 20 ?_
      refine zv_callV C (m_all K A n cc hn) (zw_V inX9_all kX9_61 ⟨by decide, by decide⟩) [0] 0 rfl rfl rfl rfl (fun _ => Nat.le_refl _) (rest := [.int (nI (2 ^ n - 1 + 1))]) rfl rfl (Nat.le_of_ble_eq_true rfl) dzX9_findOrders_11 (by decide) (by decide) rfl (fun _ _ => ?_)
      refine zv_to C rfl rfl (ws' := [mO A n cc, mZ K r f, mJ K (A 3) (foS f n g0 (2 ^ n - 1))]) rfl ?_
      refine zv_go C okX9_findOrders [] 20 ?_
      refine ⟨fun _ => ?_, fun h => absurd (nI_lt (by omega) (by omega)) h⟩
      exact zr R () [0, 1, 2] none _ rfl rfl trivial rfl rfl (Nat.zero_le _) (Nat.zero_le _) dzX9_findOrders_134
    · refine zv_go C okX9_findOrders [] 20 ?_
      refine zv_callV C (m_all K A n cc hn) (zw_V inX9_all kX9_61 ⟨by decide, by decide⟩) [0] 0 rfl rfl rfl rfl (fun _ => Nat.le_refl _) (rest := [.int (nI (k + 1))]) rfl rfl (Nat.le_of_ble_eq_true rfl) dzX9_findOrders_11 (by decide) (by decide) rfl (fun _ _ => ?_)
      refine zv_to C rfl rfl (ws' := [mO A n cc, mZ K r f, mJ K (A 3) (foS f n g0 k)]) rfl ?_
      refine zv_go C okX9_findOrders [26] 20 ?_
      refine ⟨fun h => absurd h (nI_nlt (by omega) (by omega)), fun _ => ⟨rfl, ⟨rfl, rfl⟩, vp_in_nI (by omega) (by decide), ?_⟩⟩
      refine zv_to C (lv' := [(0, .ref (A 0)), (1, .ref r), (2, .int (nI (k + 1))), (3, .int (nI 0))]) rfl rfl (ws' := [mO A n cc, mZ K r f, mJ K (A 3) (vp_updL (foS f n g0 k) (k + 1) (foI f n (k + 1) (foS f n g0 k) 0))]) ?_ (mid k (by omega) ih 0 (Nat.zero_le _))
      show [_, _, (A 3, Sum.inl (cJ K, 16384, Sum.inr (Sum.inl (vp_updL (foS f n g0 k) (nI (k + 1)).toNatClampNeg 0))))] = _
      rw [nI_clamp (by omega)]
      rfl
  refine zv_go C okX9_findOrders [9] 20 ?_
  refine ⟨rfl, ⟨rfl, rfl⟩, vp_in_nI (n := 0) (by omega) (by omega), ?_⟩
  exact outer 0 (Nat.zero_le _)
set_option maxHeartbeats 4000000 in
set_option maxRecDepth 100000 in
theorem m_rows (Lf : Nat → Bool) (g0 : Nat → Int64) (hn : n ≤ 14) : zD K yX9_rows cX9_rows 1 (some .long) (zq 2 0 0 80) [.ref (A 0)] [mO A n cc, mZ K (A 1) Lf, mJ K (A 3) g0] (some (.long ((foA Lf n g0) (2 ^ n - 1)))) [mO A n cc, mZ K (A 1) Lf, mJ K (A 3) (foA Lf n g0)] := by
  refine zo (by decide) (Nat.le_of_ble_eq_true rfl) fun x C R _ => ?_
  have hp : 0 < 2 ^ n := Nat.two_pow_pos n
  have hp14 := pow_le14 hn
  refine zv_go C okX9_rows [] 20 ?_
  refine ⟨rfl, ?_⟩
  refine zv_callV C (m_findOrders K A n cc Lf (A 1) g0 hn) (zw_V inX9_findOrders kX9_96 ⟨by decide, by decide⟩) [0, 1, 2] 0 rfl rfl rfl rfl (fun _ => Nat.le_refl _) rfl rfl (by decide) dzX9_rows_5 (by decide) (by decide) rfl (fun _ _ => ?_)
  refine zv_to C rfl rfl (ws' := [mO A n cc, mZ K (A 1) Lf, mJ K (A 3) (foA Lf n g0)]) rfl ?_
  refine zv_go C okX9_rows [] 20 ?_
  refine ⟨rfl, ?_⟩
  refine zv_callV C (m_all K A n cc hn) (zw_V inX9_all kX9_61 ⟨by decide, by decide⟩) [0] 0 rfl rfl rfl rfl (fun _ => Nat.le_refl _) (rest := [.ref (A 3)]) rfl rfl (Nat.le_of_ble_eq_true rfl) dzX9_rows_13 (by decide) (by decide) rfl (fun _ _ => ?_)
  refine zv_to C rfl rfl (ws' := [mO A n cc, mZ K (A 1) Lf, mJ K (A 3) (foA Lf n g0)]) rfl ?_
  refine zv_go C okX9_rows [] 20 ?_
  refine ⟨⟨rfl, rfl⟩, vp_in_nI (by omega) (by decide), ?_⟩
  exact zr R () [0, 1, 2] (some (.long _)) _ (by rw [nI_clamp (by omega)]) rfl trivial rfl rfl (Nat.zero_le _) (Nat.zero_le _) dzX9_rows_17
set_option maxHeartbeats 4000000 in
set_option maxRecDepth 100000 in
theorem m_before_no (Lf Of : Nat → Bool) (g0 : Nat → Int64) (a b : Int32) (h : hasb n a = false ∨ hasb n b = false ∨ a = b) : zD K yX9_before cX9_before 4 (some .long) (zq 2 0 0 80) [.ref (A 0), .int a, .int b] [mO A n cc, mZ K (A 1) Lf, mZ K (A 2) Of, mJ K (A 3) g0] (some (.long (-1))) [mO A n cc, mZ K (A 1) Lf, mZ K (A 2) Of, mJ K (A 3) g0] := by
  refine zo (by decide) (Nat.le_of_ble_eq_true rfl) fun x C R _ => ?_
  refine zv_go C okX9_before [] 20 ?_
  refine zv_callV C (m_has K A n cc a) (zw_V inX9_has kX9_42 ⟨by decide, by decide⟩) [0] 0 rfl rfl rfl rfl (fun _ => Nat.le_refl _) rfl rfl (by decide) dzX9_before_2 (by decide) (by decide) rfl (fun _ _ => ?_)
  refine zv_to C rfl rfl (ws' := [mO A n cc, mZ K (A 1) Lf, mZ K (A 2) Of, mJ K (A 3) g0]) rfl ?_
  refine zv_go C okX9_before [] 20 ?_
  refine ⟨fun h1 => ?_, fun h1 => ?_⟩
  · exact zr R () [0, 1, 2, 3] (some (.long (-1))) _ rfl rfl trivial rfl rfl (Nat.zero_le _) (Nat.zero_le _) dzX9_before_24
  rw [bI_1] at h1
  refine zv_callV C (m_has K A n cc b) (zw_V inX9_has kX9_42 ⟨by decide, by decide⟩) [0] 0 rfl rfl rfl rfl (fun _ => Nat.le_refl _) rfl rfl (by decide) dzX9_before_10 (by decide) (by decide) rfl (fun _ _ => ?_)
  refine zv_to C rfl rfl (ws' := [mO A n cc, mZ K (A 1) Lf, mZ K (A 2) Of, mJ K (A 3) g0]) rfl ?_
  refine zv_go C okX9_before [] 20 ?_
  refine ⟨fun h2 => ?_, fun h2 => ⟨fun h3 => ?_, fun h3 => ?_⟩⟩
  · exact zr R () [0, 1, 2, 3] (some (.long (-1))) _ rfl rfl trivial rfl rfl (Nat.zero_le _) (Nat.zero_le _) dzX9_before_24
  · rw [bI_1] at h2
    rcases h with h | h | h
    · rw [h] at h1; cases h1
    · rw [h] at h2; cases h2
    · exact absurd h h3
  · exact zr R () [0, 1, 2, 3] (some (.long (-1))) _ rfl rfl trivial rfl rfl (Nat.zero_le _) (Nat.zero_le _) dzX9_before_24
set_option maxHeartbeats 4000000 in
set_option maxRecDepth 100000 in
theorem m_before_0 (Lf Of : Nat → Bool) (g0 : Nat → Int64) {i j : Nat} (hi : i < n) (hj : j < n) (hij : i ≠ j) (hn : n ≤ 14) (hb : Lf (16 * j + i) = true) : zD K yX9_before cX9_before 4 (some .long) (zq 2 0 0 80) [.ref (A 0), .int (nI i), .int (nI j)] [mO A n cc, mZ K (A 1) Lf, mZ K (A 2) Of, mJ K (A 3) g0] (some (.long 0)) [mO A n cc, mZ K (A 1) Lf, mZ K (A 2) Of, mJ K (A 3) g0] := by
  refine zo (by decide) (Nat.le_of_ble_eq_true rfl) fun x C R _ => ?_
  refine zv_go C okX9_before [] 20 ?_
  refine zv_callV C (m_has K A n cc (nI i)) (zw_V inX9_has kX9_42 ⟨by decide, by decide⟩) [0] 0 rfl rfl rfl rfl (fun _ => Nat.le_refl _) rfl rfl (by decide) dzX9_before_2 (by decide) (by decide) rfl (fun _ _ => ?_)
  refine zv_to C rfl rfl (ws' := [mO A n cc, mZ K (A 1) Lf, mZ K (A 2) Of, mJ K (A 3) g0]) rfl ?_
  refine zv_go C okX9_before [] 20 ?_
  refine ⟨fun h1 => ?_, fun h1 => ?_⟩
  · rw [bI_0, hasb_nI (by omega) (by omega), decide_eq_false_iff_not] at h1; exact absurd hi h1
  refine zv_callV C (m_has K A n cc (nI j)) (zw_V inX9_has kX9_42 ⟨by decide, by decide⟩) [0] 0 rfl rfl rfl rfl (fun _ => Nat.le_refl _) rfl rfl (by decide) dzX9_before_10 (by decide) (by decide) rfl (fun _ _ => ?_)
  refine zv_to C rfl rfl (ws' := [mO A n cc, mZ K (A 1) Lf, mZ K (A 2) Of, mJ K (A 3) g0]) rfl ?_
  refine zv_go C okX9_before [] 20 ?_
  refine ⟨fun h1 => ?_, fun h1 => ⟨fun h3 => ?_, fun h3 => ?_⟩⟩
  · rw [bI_0, hasb_nI (by omega) (by omega), decide_eq_false_iff_not] at h1; exact absurd hj h1
  rotate_left
  · exact absurd ((nb_inj (by omega) (by omega)).mp h3) hij
  refine zv_callV C (m_is K A n cc Lf (a := j) (b := i) (by omega)) (zw_V inX9_is kX9_46 ⟨by decide, by decide⟩) [0, 1] 0 rfl rfl rfl rfl (fun _ => Nat.le_refl _) rfl rfl (by decide) dzX9_before_28 (by decide) (by decide) rfl (fun _ _ => ?_)
  refine zv_to C rfl rfl (ws' := [mO A n cc, mZ K (A 1) Lf, mZ K (A 2) Of, mJ K (A 3) g0]) rfl ?_
  refine zv_go C okX9_before [38] 20 ?_
  refine ⟨fun h1 => ?_, fun h1 => ?_⟩
  · rw [bI_0, hb] at h1; cases h1
  · exact zr R () [0, 1, 2, 3] (some (.long 0)) _ rfl rfl trivial rfl rfl (Nat.zero_le _) (Nat.zero_le _) dzX9_before_35
set_option maxHeartbeats 4000000 in
set_option maxRecDepth 100000 in
theorem m_before (Lf Of : Nat → Bool) (g0 : Nat → Int64) {i j : Nat} (hi : i < n) (hj : j < n) (hij : i ≠ j) (hn : n ≤ 14) (hb : Lf (16 * j + i) = false) : zD K yX9_before cX9_before 4 (some .long) (zq 2 0 0 80) [.ref (A 0), .int (nI i), .int (nI j)] [mO A n cc, mZ K (A 1) Lf, mZ K (A 2) Of, mJ K (A 3) g0] (some (.long ((foA (clW n 257 (updB Lf (16 * i + j) true)) n g0) (2 ^ n - 1)))) [mO A n cc, mZ K (A 1) Lf, mZ K (A 2) (clW n 257 (updB Lf (16 * i + j) true)), mJ K (A 3) (foA (clW n 257 (updB Lf (16 * i + j) true)) n g0)] := by
  refine zo (by decide) (Nat.le_of_ble_eq_true rfl) fun x C R _ => ?_
  have hp : 0 < 2 ^ n := Nat.two_pow_pos n
  have hp14 := pow_le14 hn
  have rest : zv_V x (gz K (zq 2 0 0 80) 4 cX9_before yX9_before.cls) 63 [(0, .ref (A 0)), (1, .int (nI i)), (2, .int (nI j)), (3, .int (nI 256))] [] [mO A n cc, mZ K (A 1) Lf, mZ K (A 2) Lf, mJ K (A 3) g0] 0 0 := by
    refine zv_go C okX9_before [] 20 ?_
    refine ⟨rfl, ⟨rfl, rfl⟩, ?_, rfl, ?_⟩
    · show vp_in ((16 : Int32) * nI i + nI j) 256
      rw [nb_16]; exact vp_in_nI (by omega) (by decide)
    have e : ((16 : Int32) * nI i + nI j).toNatClampNeg = 16 * i + j := by rw [nb_16]; exact nI_clamp (by omega)
    refine zv_to C rfl rfl (ws' := [mO A n cc, mZ K (A 1) Lf, mZ K (A 2) (updB Lf (16 * i + j) true), mJ K (A 3) g0]) ?_ ?_
    · show [_, _, (A 2, Sum.inl (cZ K, 256, Sum.inl (upd (fun k => bI (Lf k)) ((16 : Int32) * nI i + nI j).toNatClampNeg (vp_nar .boolean 1)))), _] = _
      rw [e, bI_n1, updB_bI]
    refine zv_callV C (m_close K A n cc (r := A 2) (f0 := updB Lf (16 * i + j) true) hn) (zw_V inX9_close kX9_54 ⟨by decide, by decide⟩) [0, 2] 0 rfl rfl rfl rfl (fun _ => Nat.le_refl _) rfl rfl (by decide) dzX9_before_80 (by decide) (by decide) rfl (fun _ _ => ?_)
    refine zv_to C rfl rfl (ws' := [mO A n cc, mZ K (A 1) Lf, mZ K (A 2) (clW n 257 (updB Lf (16 * i + j) true)), mJ K (A 3) g0]) rfl ?_
    refine zv_go C okX9_before [] 20 ?_
    refine ⟨rfl, ?_⟩
    refine zv_callV C (m_findOrders K A n cc (clW n 257 (updB Lf (16 * i + j) true)) (A 2) g0 hn) (zw_V inX9_findOrders kX9_96 ⟨by decide, by decide⟩) [0, 2, 3] 0 rfl rfl rfl rfl (fun _ => Nat.le_refl _) rfl rfl (by decide) dzX9_before_88 (by decide) (by decide) rfl (fun _ _ => ?_)
    refine zv_to C rfl rfl (ws' := [mO A n cc, mZ K (A 1) Lf, mZ K (A 2) (clW n 257 (updB Lf (16 * i + j) true)), mJ K (A 3) (foA (clW n 257 (updB Lf (16 * i + j) true)) n g0)]) rfl ?_
    refine zv_go C okX9_before [] 20 ?_
    refine ⟨rfl, ?_⟩
    refine zv_callV C (m_all K A n cc hn) (zw_V inX9_all kX9_61 ⟨by decide, by decide⟩) [0] 0 rfl rfl rfl rfl (fun _ => Nat.le_refl _) (rest := [.ref (A 3)]) rfl rfl (Nat.le_of_ble_eq_true rfl) dzX9_before_96 (by decide) (by decide) rfl (fun _ _ => ?_)
    refine zv_to C rfl rfl (ws' := [mO A n cc, mZ K (A 1) Lf, mZ K (A 2) (clW n 257 (updB Lf (16 * i + j) true)), mJ K (A 3) (foA (clW n 257 (updB Lf (16 * i + j) true)) n g0)]) rfl ?_
    refine zv_go C okX9_before [] 20 ?_
    refine ⟨⟨rfl, rfl⟩, vp_in_nI (by omega) (by decide), ?_⟩
    exact zr R () [0, 1, 2, 3] (some (.long _)) _ (by rw [nI_clamp (by omega)]) rfl trivial rfl rfl (Nat.zero_le _) (Nat.zero_le _) dzX9_before_100
  have loop : ∀ mm k (f : Nat → Int32), k + mm = 256 → (∀ q, q < k → f q = bI (Lf q)) → zv_V x (gz K (zq 2 0 0 80) 4 cX9_before yX9_before.cls) 38 [(0, .ref (A 0)), (1, .int (nI i)), (2, .int (nI j)), (3, .int (nI k))] [] [mO A n cc, mZ K (A 1) Lf, (A 2, .inl (cZ K, 256, .inl f)), mJ K (A 3) g0] 0 0 := by
    intro mm
    induction mm with
    | zero =>
      intro k f hk hf
      have e : k = 256 := by omega
      subst e
      refine zv_exI C 2 (fun q => bI (Lf q)) rfl (fun q hq => hf q hq) ?_
      refine zv_go C okX9_before [63] 20 ?_
      refine ⟨fun _ => ?_, fun h => absurd (by decide) h⟩
      exact rest
    | succ mm ih =>
      intro k f hk hf
      refine zv_go C okX9_before [38] 20 ?_
      refine ⟨fun h => absurd h (nI_ge (b := 256) (by omega) (by omega)), fun _ => ⟨rfl, rfl, ⟨rfl, rfl⟩, vp_in_nI (by omega) (by decide), ⟨rfl, rfl⟩, vp_in_nI (by omega) (by decide), ?_⟩⟩
      refine zv_to C (lv' := [(0, .ref (A 0)), (1, .int (nI i)), (2, .int (nI j)), (3, .int (nI (k + 1)))]) (by rw [← nI_1] <;> rfl) rfl rfl (ih (k + 1) _ (by omega) ?_)
      intro q hq
      show upd f (nI k).toNatClampNeg (vp_nar .boolean (bI (Lf (nI k).toNatClampNeg))) q = _
      rw [nI_clamp (by omega)]
      by_cases e : q = k
      · rw [e, pk_us]; exact bI_nn _
      · rw [pk_un e]; exact hf q (by omega)
  refine zv_go C okX9_before [] 20 ?_
  refine zv_callV C (m_has K A n cc (nI i)) (zw_V inX9_has kX9_42 ⟨by decide, by decide⟩) [0] 0 rfl rfl rfl rfl (fun _ => Nat.le_refl _) rfl rfl (by decide) dzX9_before_2 (by decide) (by decide) rfl (fun _ _ => ?_)
  refine zv_to C rfl rfl (ws' := [mO A n cc, mZ K (A 1) Lf, mZ K (A 2) Of, mJ K (A 3) g0]) rfl ?_
  refine zv_go C okX9_before [] 20 ?_
  refine ⟨fun h1 => ?_, fun h1 => ?_⟩
  · rw [bI_0, hasb_nI (by omega) (by omega), decide_eq_false_iff_not] at h1; exact absurd hi h1
  refine zv_callV C (m_has K A n cc (nI j)) (zw_V inX9_has kX9_42 ⟨by decide, by decide⟩) [0] 0 rfl rfl rfl rfl (fun _ => Nat.le_refl _) rfl rfl (by decide) dzX9_before_10 (by decide) (by decide) rfl (fun _ _ => ?_)
  refine zv_to C rfl rfl (ws' := [mO A n cc, mZ K (A 1) Lf, mZ K (A 2) Of, mJ K (A 3) g0]) rfl ?_
  refine zv_go C okX9_before [] 20 ?_
  refine ⟨fun h1 => ?_, fun h1 => ⟨fun h3 => ?_, fun h3 => ?_⟩⟩
  · rw [bI_0, hasb_nI (by omega) (by omega), decide_eq_false_iff_not] at h1; exact absurd hj h1
  rotate_left
  · exact absurd ((nb_inj (by omega) (by omega)).mp h3) hij
  refine zv_callV C (m_is K A n cc Lf (a := j) (b := i) (by omega)) (zw_V inX9_is kX9_46 ⟨by decide, by decide⟩) [0, 1] 0 rfl rfl rfl rfl (fun _ => Nat.le_refl _) rfl rfl (by decide) dzX9_before_28 (by decide) (by decide) rfl (fun _ _ => ?_)
  refine zv_to C rfl rfl (ws' := [mO A n cc, mZ K (A 1) Lf, mZ K (A 2) Of, mJ K (A 3) g0]) rfl ?_
  refine zv_go C okX9_before [38] 20 ?_
  refine ⟨fun h1 => ?_, fun h1 => ?_⟩
  · exact loop 256 0 _ (by omega) (fun q hq => absurd hq (Nat.not_lt_zero _))
  · rw [bI_1, hb] at h1; cases h1
set_option maxHeartbeats 4000000 in
set_option maxRecDepth 100000 in
theorem m_places_no (Lf : Nat → Bool) (g0 : Nat → Int64) (a b : Int32) (h : hasb n a = false ∨ hasb n b = false) : zD K yX9_places cX9_places 6 (some .long) (zq 2 0 0 80) [.ref (A 0), .int a, .int b] [mO A n cc, mZ K (A 1) Lf, mJ K (A 3) g0] (some (.long (-1))) [mO A n cc, mZ K (A 1) Lf, mJ K (A 3) g0] := by
  refine zo (by decide) (Nat.le_of_ble_eq_true rfl) fun x C R _ => ?_
  refine zv_go C okX9_places [] 20 ?_
  refine zv_callV C (m_has K A n cc a) (zw_V inX9_has kX9_42 ⟨by decide, by decide⟩) [0] 0 rfl rfl rfl rfl (fun _ => Nat.le_refl _) rfl rfl (by decide) dzX9_places_2 (by decide) (by decide) rfl (fun _ _ => ?_)
  refine zv_to C rfl rfl (ws' := [mO A n cc, mZ K (A 1) Lf, mJ K (A 3) g0]) rfl ?_
  refine zv_go C okX9_places [] 20 ?_
  refine ⟨fun h1 => ?_, fun h1 => ⟨fun h2 => ?_, fun h2 => ⟨rfl, fun h3 => ?_, fun h3 => ?_⟩⟩⟩
  · exact zr R () [0, 1, 2] (some (.long (-1))) _ rfl rfl trivial rfl rfl (Nat.zero_le _) (Nat.zero_le _) dzX9_places_23
  · exact zr R () [0, 1, 2] (some (.long (-1))) _ rfl rfl trivial rfl rfl (Nat.zero_le _) (Nat.zero_le _) dzX9_places_23
  · rw [bI_1] at h1
    rcases h with h | h
    · rw [h] at h1; cases h1
    · unfold hasb at h
      rw [decide_eq_false_iff_not] at h
      exact absurd ⟨Int32.not_lt.mp h2, h3⟩ h
  · exact zr R () [0, 1, 2] (some (.long (-1))) _ rfl rfl trivial rfl rfl (Nat.zero_le _) (Nat.zero_le _) dzX9_places_23
def plQ (Lf : Nat → Bool) (n v p s : Nat) : Bool := decide (npc 31 s = p) && (!s.testBit v && (allB (fun a => allB (pisIdeal Lf s a) n) n && allB (fun a => allB (pisIdeal Lf (s ||| 2 ^ v) a) n) n))
def plS (Lf : Nat → Bool) (n v p : Nat) (g : Nat → Int64) : Nat → Int64
  | 0 => 0
  | k + 1 => if plQ Lf n v p k = true then plS Lf n v p g k + g k * g (ndf (ndf (2 ^ n - 1) k) (2 ^ v)) else plS Lf n v p g k
set_option maxHeartbeats 4000000 in
set_option maxRecDepth 100000 in
theorem m_places (Lf : Nat → Bool) (g0 : Nat → Int64) {v p : Nat} (hv : v < n) (hp : p < n) (hn : n ≤ 14) : zD K yX9_places cX9_places 6 (some .long) (zq 2 0 0 80) [.ref (A 0), .int (nI v), .int (nI p)] [mO A n cc, mZ K (A 1) Lf, mJ K (A 3) g0] (some (.long (plS Lf n v p (foA Lf n g0) (2 ^ n)))) [mO A n cc, mZ K (A 1) Lf, mJ K (A 3) (foA Lf n g0)] := by
  refine zo (by decide) (Nat.le_of_ble_eq_true rfl) fun x C R _ => ?_
  have hp0 : 0 < 2 ^ n := Nat.two_pow_pos n
  have hp14 := pow_le14 hn
  have loop : ∀ k, k ≤ 2 ^ n → zv_V x (gz K (zq 2 0 0 80) 6 cX9_places yX9_places.cls) 37 [(0, .ref (A 0)), (1, .int (nI v)), (2, .int (nI p)), (3, .long (plS Lf n v p (foA Lf n g0) k)), (5, .int (nI k))] [] [mO A n cc, mZ K (A 1) Lf, mJ K (A 3) (foA Lf n g0)] 0 0 := by
    refine zl (2 ^ n) ?_ fun k hk ih => ?_
    · refine zv_go C okX9_places [] 20 ?_
      refine zv_callV C (m_all K A n cc hn) (zw_V inX9_all kX9_61 ⟨by decide, by decide⟩) [0] 0 rfl rfl rfl rfl (fun _ => Nat.le_refl _) (rest := [.int (nI (2 ^ n))]) rfl rfl (Nat.le_of_ble_eq_true rfl) dzX9_places_40 (by decide) (by decide) rfl (fun _ _ => ?_)
      refine zv_to C rfl rfl (ws' := [mO A n cc, mZ K (A 1) Lf, mJ K (A 3) (foA Lf n g0)]) rfl ?_
      refine zv_go C okX9_places [] 20 ?_
      refine ⟨fun _ => ?_, fun h => absurd (nI_lt (by omega) (by omega)) h⟩
      exact zr R () [0, 1, 2] (some (.long _)) _ rfl rfl trivial rfl rfl (Nat.zero_le _) (Nat.zero_le _) dzX9_places_124
    · have hor : k ||| 2 ^ v < 2 ^ n := nb_lt_or hk (nb_lt_pow hv)
      refine zv_go C okX9_places [] 20 ?_
      refine zv_callV C (m_all K A n cc hn) (zw_V inX9_all kX9_61 ⟨by decide, by decide⟩) [0] 0 rfl rfl rfl rfl (fun _ => Nat.le_refl _) (rest := [.int (nI k)]) rfl rfl (Nat.le_of_ble_eq_true rfl) dzX9_places_40 (by decide) (by decide) rfl (fun _ _ => ?_)
      refine zv_to C rfl rfl (ws' := [mO A n cc, mZ K (A 1) Lf, mJ K (A 3) (foA Lf n g0)]) rfl ?_
      refine zv_go C okX9_places [] 20 ?_
      refine ⟨fun h => absurd h (nI_nlt (by omega) (by omega)), fun _ => ?_⟩
      refine zv_callS C (m_size K (s := k) (by omega)) (zw_S inX9_size kX9_64 ⟨by decide, by decide⟩) [] rfl rfl (fun _ => Nat.le_refl _) rfl rfl (by decide) dzX9_places_48 (by decide) (by decide) rfl (fun _ _ => ?_)
      refine zv_to C rfl rfl (ws' := [mO A n cc, mZ K (A 1) Lf, mJ K (A 3) (foA Lf n g0)]) rfl ?_
      refine zv_go C okX9_places [37] 20 ?_
      refine ⟨fun h1 => ?_, fun h1 => ?_⟩
      · rw [nb_inj (Nat.lt_of_le_of_lt (npc_le 31 k) (by decide)) (by omega)] at h1
        refine zv_to C (lv' := [(0, .ref (A 0)), (1, .int (nI v)), (2, .int (nI p)), (3, .long (plS Lf n v p (foA Lf n g0) (k + 1))), (5, .int (nI (k + 1)))]) (by rw [plS, if_neg (by unfold plQ; rw [decide_eq_false h1]; simp), ← nI_1 k] <;> rfl) rfl rfl ih
      rw [nb_inj (Nat.lt_of_le_of_lt (npc_le 31 k) (by decide)) (by omega)] at h1
      refine zv_callS C (m_isIn K (s := k) (v := v) (by omega) (by omega)) (zw_S inX9_isIn kX9_58 ⟨by decide, by decide⟩) [] rfl rfl (fun _ => Nat.le_refl _) rfl rfl (by decide) dzX9_places_58 (by decide) (by decide) rfl (fun _ _ => ?_)
      refine zv_to C rfl rfl (ws' := [mO A n cc, mZ K (A 1) Lf, mJ K (A 3) (foA Lf n g0)]) rfl ?_
      refine zv_go C okX9_places [37] 20 ?_
      refine ⟨fun h2 => ?_, fun h2 => ?_⟩
      · rw [bI_1] at h2
        refine zv_to C (lv' := [(0, .ref (A 0)), (1, .int (nI v)), (2, .int (nI p)), (3, .long (plS Lf n v p (foA Lf n g0) (k + 1))), (5, .int (nI (k + 1)))]) (by rw [plS, if_neg (by unfold plQ; rw [h2]; simp), ← nI_1 k] <;> rfl) rfl rfl ih
      rw [bI_0] at h2
      refine zv_callV C (m_isIdeal K A n cc Lf (s := k) (by omega) hn) (zw_V inX9_isIdeal kX9_84 ⟨by decide, by decide⟩) [0, 1] 0 rfl rfl rfl rfl (fun _ => Nat.le_refl _) rfl rfl (by decide) dzX9_places_67 (by decide) (by decide) rfl (fun _ _ => ?_)
      refine zv_to C rfl rfl (ws' := [mO A n cc, mZ K (A 1) Lf, mJ K (A 3) (foA Lf n g0)]) rfl ?_
      refine zv_go C okX9_places [37] 20 ?_
      refine ⟨fun h3 => ?_, fun h3 => ?_⟩
      · rw [bI_0] at h3
        refine zv_to C (lv' := [(0, .ref (A 0)), (1, .int (nI v)), (2, .int (nI p)), (3, .long (plS Lf n v p (foA Lf n g0) (k + 1))), (5, .int (nI (k + 1)))]) (by rw [plS, if_neg (by unfold plQ; rw [h3]; simp), ← nI_1 k] <;> rfl) rfl rfl ih
      rw [bI_1] at h3
      refine zv_to C rfl (st' := [.int (nI (k ||| 2 ^ v)), .ref (A 0)]) (by rw [← nb_or, ← nb_1s v (by omega)] <;> rfl) rfl ?_
      refine zv_callV C (m_isIdeal K A n cc Lf (s := k ||| 2 ^ v) (by omega) hn) (zw_V inX9_isIdeal kX9_84 ⟨by decide, by decide⟩) [0, 1] 0 rfl rfl rfl rfl (fun _ => Nat.le_refl _) rfl rfl (by decide) dzX9_places_80 (by decide) (by decide) rfl (fun _ _ => ?_)
      refine zv_to C rfl rfl (ws' := [mO A n cc, mZ K (A 1) Lf, mJ K (A 3) (foA Lf n g0)]) rfl ?_
      refine zv_go C okX9_places [37] 20 ?_
      refine ⟨fun h4 => ?_, fun h4 => ⟨rfl, ⟨rfl, rfl⟩, vp_in_nI (by omega) (by decide), rfl, ?_⟩⟩
      · rw [bI_0] at h4
        refine zv_to C (lv' := [(0, .ref (A 0)), (1, .int (nI v)), (2, .int (nI p)), (3, .long (plS Lf n v p (foA Lf n g0) (k + 1))), (5, .int (nI (k + 1)))]) (by rw [plS, if_neg (by unfold plQ; rw [h4]; simp), ← nI_1 k] <;> rfl) rfl rfl ih
      rw [bI_1] at h4
      refine zv_to C rfl (st' := [.ref (A 0), .ref (A 3), .long ((foA Lf n g0) k), .long (plS Lf n v p (foA Lf n g0) k)]) (by rw [nI_clamp (by omega)] <;> rfl) rfl ?_
      refine zv_callV C (m_all K A n cc hn) (zw_V inX9_all kX9_61 ⟨by decide, by decide⟩) [0] 0 rfl rfl rfl rfl (fun _ => Nat.le_refl _) (rest := [.ref (A 3), .long ((foA Lf n g0) k), .long (plS Lf n v p (foA Lf n g0) k)]) rfl rfl (Nat.le_of_ble_eq_true rfl) dzX9_places_99 (by decide) (by decide) rfl (fun _ _ => ?_)
      refine zv_to C rfl rfl (ws' := [mO A n cc, mZ K (A 1) Lf, mJ K (A 3) (foA Lf n g0)]) rfl ?_
      have hd1 := ndf_le (2 ^ n - 1) k
      have hd2 := ndf_le (ndf (2 ^ n - 1) k) (2 ^ v)
      have ei : (nI (2 ^ n - 1) &&& (nI k ^^^ (-1))) &&& ((1 : Int32) <<< (nI v &&& 31) ^^^ (-1)) = nI (ndf (ndf (2 ^ n - 1) k) (2 ^ v)) := by rw [nb_not, nb_clr _ _ (by omega)]
      refine zv_go C okX9_places [37] 40 ?_
      refine ⟨⟨rfl, rfl⟩, ?_, ?_⟩
      · show vp_in ((nI (2 ^ n - 1) &&& (nI k ^^^ (-1))) &&& ((1 : Int32) <<< (nI v &&& 31) ^^^ (-1))) 16384
        rw [ei]
        exact vp_in_nI (by omega) (by decide)
      refine zv_to C (lv' := [(0, .ref (A 0)), (1, .int (nI v)), (2, .int (nI p)), (3, .long (plS Lf n v p (foA Lf n g0) (k + 1))), (5, .int (nI (k + 1)))]) ?_ rfl rfl ih
      show [_, _, _, (3, Value.long (plS Lf n v p (foA Lf n g0) k + (foA Lf n g0) k * (foA Lf n g0) ((nI (2 ^ n - 1) &&& (nI k ^^^ (-1))) &&& ((1 : Int32) <<< (nI v &&& 31) ^^^ (-1))).toNatClampNeg)), (5, Value.int (nI k + 1))] = _
      rw [ei, nI_clamp (by omega), plS, if_pos (by unfold plQ; rw [decide_eq_true h1, h2, h3, h4]; rfl), nI_1]
  refine zv_go C okX9_places [] 20 ?_
  refine zv_callV C (m_has K A n cc (nI v)) (zw_V inX9_has kX9_42 ⟨by decide, by decide⟩) [0] 0 rfl rfl rfl rfl (fun _ => Nat.le_refl _) rfl rfl (by decide) dzX9_places_2 (by decide) (by decide) rfl (fun _ _ => ?_)
  refine zv_to C rfl rfl (ws' := [mO A n cc, mZ K (A 1) Lf, mJ K (A 3) g0]) rfl ?_
  refine zv_go C okX9_places [] 20 ?_
  refine ⟨fun h1 => ?_, fun h1 => ⟨fun h2 => ?_, fun h2 => ⟨rfl, fun h3 => ⟨rfl, ?_⟩, fun h3 => ?_⟩⟩⟩
  · rw [bI_0, hasb_nI (by omega) (by omega), decide_eq_false_iff_not] at h1; exact absurd hv h1
  · exact absurd h2 (nI_nlt (b := 0) (Nat.zero_le _) (by omega))
  rotate_left
  · exact absurd (nI_lt (by omega) (by omega)) h3
  refine zv_callV C (m_findOrders K A n cc Lf (A 1) g0 hn) (zw_V inX9_findOrders kX9_96 ⟨by decide, by decide⟩) [0, 1, 2] 0 rfl rfl rfl rfl (fun _ => Nat.le_refl _) rfl rfl (by decide) dzX9_places_29 (by decide) (by decide) rfl (fun _ _ => ?_)
  refine zv_to C rfl rfl (ws' := [mO A n cc, mZ K (A 1) Lf, mJ K (A 3) (foA Lf n g0)]) rfl ?_
  refine zv_go C okX9_places [37] 20 ?_
  exact loop 0 (Nat.zero_le _)
end ME
end
section
/-! THE MODEL: row, rank -/
def mrV (Lf : Nat → Bool) (n : Nat) (g : Nat → Int64) (left : Nat) : Nat → Nat → Int64 → Option (Nat × Int64)
  | 0, _, _ => none
  | d + 1, v, num => if mayC Lf n left v = true ∧ num < g (ndf left (2 ^ v)) then some (v, num) else mrV Lf n g left d (v + 1) (num - (if mayC Lf n left v = true then g (ndf left (2 ^ v)) else 0))
def mrF (Lf : Nat → Bool) (n : Nat) (g : Nat → Int64) : Nat → Int64 → Int64 → Nat → Option Int64
  | 0, _, rw, _ => some rw
  | m + 1, num, rw, left => (mrV Lf n g left n 0 num).bind fun z => mrF Lf n g m z.2 (rw ||| ((nI z.1).toInt64 <<< ((nI (4 * (n - (m + 1)))).toInt64 &&& 63))) (ndf left (2 ^ z.1))
def mdg (row : Int64) (i : Nat) : Int32 := ((row >>> ((nI (4 * i)).toInt64 &&& 63)) &&& 15).toInt32
def mdt (row : Int64) (i : Nat) : Nat := (mdg row i).toNatClampNeg
theorem mdg_and (x : Int64) : (x &&& 15).toInt32 = x.toInt32 &&& 15 := by
  apply Int32.toBitVec_inj.mp
  simp
theorem mdt_ok (row : Int64) (i : Nat) : mdg row i = nI (mdt row i) ∧ mdt row i < 16 := by
  obtain ⟨j, hj, e⟩ := pk_andE (row >>> ((nI (4 * i)).toInt64 &&& 63)).toInt32 (m := 15) 4 (by decide)
  have e : mdg row i = nI j := by unfold mdg; rw [mdg_and]; exact e
  have e2 : mdt row i = j := by unfold mdt; rw [e]; exact nI_clamp (by omega)
  exact ⟨by rw [e2]; exact e, by rw [e2]; exact hj⟩
def msm (Lf : Nat → Bool) (n : Nat) (g : Nat → Int64) (num : Int64) (left : Nat) : Nat → Int64
  | 0 => num
  | u + 1 => msm Lf n g num left u + (if mayC Lf n left u = true then g (ndf left (2 ^ u)) else 0)
def mkF (Lf : Nat → Bool) (n : Nat) (g : Nat → Int64) (row : Int64) : Nat → Int64 → Nat → Int64
  | 0, num, _ => num
  | m + 1, num, left => if n ≤ 15 - m then (if mdt row (15 - m) = 0 then mkF Lf n g row m num left else -1) else if mdt row (15 - m) < n ∧ mayC Lf n left (mdt row (15 - m)) = true then mkF Lf n g row m (msm Lf n g num left (mdt row (15 - m))) (ndf left (2 ^ mdt row (15 - m))) else -1
section MF
variable (K : zK) (A : Nat → Nat) (n : Nat) (cc : Int32)
set_option maxHeartbeats 4000000 in
set_option maxRecDepth 100000 in
theorem m_row_no (Lf : Nat → Bool) (g0 : Nat → Int64) (k : Int64) (hn : n ≤ 14) (h : k < 0 ∨ (foA Lf n g0) (2 ^ n - 1) ≤ k) : zD K yX9_row cX9_row 10 (some .long) (zq 2 0 0 80) [.ref (A 0), .long k] [mO A n cc, mZ K (A 1) Lf, mJ K (A 3) g0] (some (.long (-1))) [mO A n cc, mZ K (A 1) Lf, mJ K (A 3) (foA Lf n g0)] := by
  refine zo (by decide) (Nat.le_of_ble_eq_true rfl) fun x C R _ => ?_
  have hp : 0 < 2 ^ n := Nat.two_pow_pos n
  have hp14 := pow_le14 hn
  refine zv_go C okX9_row [] 20 ?_
  refine ⟨rfl, ?_⟩
  refine zv_callV C (m_findOrders K A n cc Lf (A 1) g0 hn) (zw_V inX9_findOrders kX9_96 ⟨by decide, by decide⟩) [0, 1, 2] 0 rfl rfl rfl rfl (fun _ => Nat.le_refl _) rfl rfl (by decide) dzX9_row_5 (by decide) (by decide) rfl (fun _ _ => ?_)
  refine zv_to C rfl rfl (ws' := [mO A n cc, mZ K (A 1) Lf, mJ K (A 3) (foA Lf n g0)]) rfl ?_
  refine zv_go C okX9_row [] 20 ?_
  refine ⟨fun h1 => ?_, fun h1 => ⟨rfl, ?_⟩⟩
  · exact zr R () [0, 1, 2] (some (.long (-1))) _ rfl rfl trivial rfl rfl (Nat.zero_le _) (Nat.zero_le _) dzX9_row_31
  rw [lg_cmp_lt] at h1
  refine zv_callV C (m_all K A n cc hn) (zw_V inX9_all kX9_61 ⟨by decide, by decide⟩) [0] 0 rfl rfl rfl rfl (fun _ => Nat.le_refl _) (rest := [.ref (A 3), .long k]) rfl rfl (Nat.le_of_ble_eq_true rfl) dzX9_row_20 (by decide) (by decide) rfl (fun _ _ => ?_)
  refine zv_to C rfl rfl (ws' := [mO A n cc, mZ K (A 1) Lf, mJ K (A 3) (foA Lf n g0)]) rfl ?_
  refine zv_go C okX9_row [] 6 ?_
  refine ⟨⟨rfl, rfl⟩, vp_in_nI (by omega) (by decide), fun h2 => ?_, fun h2 => ?_⟩
  · rw [lg_cmp_lt] at h2
    have h2 : k < (foA Lf n g0) (nI (2 ^ n - 1)).toNatClampNeg := h2
    rw [nI_clamp (by omega)] at h2
    exact absurd h (fun q => q.elim h1 (fun z => absurd h2 (Int64.not_lt.mpr z)))
  · exact zr R () [0, 1, 2] (some (.long (-1))) _ rfl rfl trivial rfl rfl (Nat.zero_le _) (Nat.zero_le _) dzX9_row_31
set_option maxHeartbeats 4000000 in
set_option maxRecDepth 100000 in
theorem m_row (Lf : Nat → Bool) (g0 : Nat → Int64) (k : Int64) (hn : n ≤ 14) (h : ¬ (k < 0 ∨ (foA Lf n g0) (2 ^ n - 1) ≤ k)) (res : Int64) (hr : mrF Lf n (foA Lf n g0) n k 0 (2 ^ n - 1) = some res) : zD K yX9_row cX9_row 10 (some .long) (zq 2 0 0 80) [.ref (A 0), .long k] [mO A n cc, mZ K (A 1) Lf, mJ K (A 3) g0] (some (.long res)) [mO A n cc, mZ K (A 1) Lf, mJ K (A 3) (foA Lf n g0)] := by
  refine zo (by decide) (Nat.le_of_ble_eq_true rfl) fun x C R _ => ?_
  have hp : 0 < 2 ^ n := Nat.two_pow_pos n
  have hp14 := pow_le14 hn
  have inner : ∀ (GG : Nat → Int64) (rw' : Int64) (pl left : Nat), left < 2 ^ n → ∀ (v' : Nat) (num' : Int64), (v' < n → zv_V x (gz K (zq 2 0 0 80) 10 cX9_row yX9_row.cls) 129 [(0, .ref (A 0)), (1, .long k), (3, .long rw'), (5, .long num'), (7, .int (nI left)), (8, .int (nI pl)), (9, .int (nI v'))] [] [mO A n cc, mZ K (A 1) Lf, mJ K (A 3) GG] 0 0) → ∀ d v num, v + d = n → mrV Lf n GG left d v num = some (v', num') → zv_V x (gz K (zq 2 0 0 80) 10 cX9_row yX9_row.cls) 58 [(0, .ref (A 0)), (1, .long k), (3, .long rw'), (5, .long num), (7, .int (nI left)), (8, .int (nI pl)), (9, .int (nI v))] [] [mO A n cc, mZ K (A 1) Lf, mJ K (A 3) GG] 0 0 := by
    intro GG rw' pl left hl v' num' hend d
    induction d with
    | zero => intro v num _ hv; cases hv
    | succ d ih =>
      intro v num hvd hv
      have ec : nI left &&& ((1 : Int32) <<< (nI v &&& 31) ^^^ (-1)) = nI (ndf left (2 ^ v)) := nb_clr _ _ (by omega)
      have hle := ndf_le left (2 ^ v)
      have ein : vp_in (nI left &&& ((1 : Int32) <<< (nI v &&& 31) ^^^ (-1))) 16384 := by rw [ec]; exact vp_in_nI (by omega) (by decide)
      have ecl : (nI left &&& ((1 : Int32) <<< (nI v &&& 31) ^^^ (-1))).toNatClampNeg = ndf left (2 ^ v) := by rw [ec]; exact nI_clamp (by omega)
      have again : ∀ num2 : Int64, num2 = num - (if mayC Lf n left v = true then GG (ndf left (2 ^ v)) else 0) → ¬ (mayC Lf n left v = true ∧ num < GG (ndf left (2 ^ v))) → zv_V x (gz K (zq 2 0 0 80) 10 cX9_row yX9_row.cls) 120 [(0, .ref (A 0)), (1, .long k), (3, .long rw'), (5, .long num), (7, .int (nI left)), (8, .int (nI pl)), (9, .int (nI v))] [.long (if mayC Lf n left v = true then GG (ndf left (2 ^ v)) else 0), .long num] [mO A n cc, mZ K (A 1) Lf, mJ K (A 3) GG] 0 0 := by
        intro num2 e2 hno
        rw [mrV, if_neg hno] at hv
        refine zv_go C okX9_row [58] 10 ?_
        exact zv_to C (lv' := [(0, .ref (A 0)), (1, .long k), (3, .long rw'), (5, .long (num - (if mayC Lf n left v = true then GG (ndf left (2 ^ v)) else 0))), (7, .int (nI left)), (8, .int (nI pl)), (9, .int (nI (v + 1)))]) (by rw [← nI_1 v] <;> rfl) rfl rfl (ih (v + 1) _ (by omega) hv)
      have second : ¬ (mayC Lf n left v = true ∧ num < GG (ndf left (2 ^ v))) → zv_V x (gz K (zq 2 0 0 80) 10 cX9_row yX9_row.cls) 89 [(0, .ref (A 0)), (1, .long k), (3, .long rw'), (5, .long num), (7, .int (nI left)), (8, .int (nI pl)), (9, .int (nI v))] [] [mO A n cc, mZ K (A 1) Lf, mJ K (A 3) GG] 0 0 := by
        intro hno
        refine zv_go C okX9_row [] 10 ?_
        refine zv_callV C (m_mayCome K A n cc Lf (v := v) (s := left) (by omega) (by omega) hn) (zw_V inX9_mayCome kX9_101 ⟨by decide, by decide⟩) [0, 1] 0 rfl rfl rfl rfl (fun _ => Nat.le_refl _) (rest := [.long num]) rfl rfl (Nat.le_of_ble_eq_true rfl) dzX9_row_96 (by decide) (by decide) rfl (fun _ _ => ?_)
        refine zv_to C rfl rfl (ws' := [mO A n cc, mZ K (A 1) Lf, mJ K (A 3) GG]) rfl ?_
        refine zv_go C okX9_row [120] 20 ?_
        refine ⟨fun h1 => ?_, fun h1 => ⟨rfl, ⟨rfl, rfl⟩, ein, ?_⟩⟩
        · rw [bI_0] at h1
          refine zv_to C rfl ?_ rfl (again _ rfl hno)
          rw [h1]
          rfl
        · rw [bI_1] at h1
          refine zv_to C rfl ?_ rfl (again _ rfl hno)
          rw [if_pos h1]
          show [Value.long (GG (nI left &&& ((1 : Int32) <<< (nI v &&& 31) ^^^ (-1))).toNatClampNeg), _] = _
          rw [ecl]
      refine zv_go C okX9_row [] 10 ?_
      refine zv_callV C (m_mayCome K A n cc Lf (v := v) (s := left) (by omega) (by omega) hn) (zw_V inX9_mayCome kX9_101 ⟨by decide, by decide⟩) [0, 1] 0 rfl rfl rfl rfl (fun _ => Nat.le_refl _) rfl rfl (by decide) dzX9_row_63 (by decide) (by decide) rfl (fun _ _ => ?_)
      refine zv_to C rfl rfl (ws' := [mO A n cc, mZ K (A 1) Lf, mJ K (A 3) GG]) rfl ?_
      refine zv_go C okX9_row [129, 89] 20 ?_
      refine ⟨fun h1 => ?_, fun h1 => ⟨rfl, ⟨rfl, rfl⟩, ein, fun h2 => ?_, fun h2 => ?_⟩⟩
      · rw [bI_0] at h1
        exact second (fun q => by rw [h1] at q; cases q.1)
      · rw [bI_1] at h1
        rw [lg_cmp_lt] at h2
        have h2 : num < GG (nI left &&& ((1 : Int32) <<< (nI v &&& 31) ^^^ (-1))).toNatClampNeg := h2
        rw [ecl] at h2
        rw [mrV, if_pos ⟨h1, h2⟩] at hv
        have hv := Option.some.inj hv
        have e1 : v = v' := congrArg Prod.fst hv
        have e2 : num = num' := congrArg Prod.snd hv
        subst e1
        subst e2
        exact hend (by omega)
      · rw [lg_cmp_lt] at h2
        have h2 : ¬ num < GG (nI left &&& ((1 : Int32) <<< (nI v &&& 31) ^^^ (-1))).toNatClampNeg := h2
        rw [ecl] at h2
        exact second (fun q => h2 q.2)
  have loop : ∀ mm (num rw' : Int64) (left : Nat), mm ≤ n → left < 2 ^ n → mrF Lf n (foA Lf n g0) mm num rw' left = some res → zv_V x (gz K (zq 2 0 0 80) 10 cX9_row yX9_row.cls) 46 [(0, .ref (A 0)), (1, .long k), (3, .long rw'), (5, .long num), (7, .int (nI left)), (8, .int (nI (n - mm)))] [] [mO A n cc, mZ K (A 1) Lf, mJ K (A 3) (foA Lf n g0)] 0 0 := by
    intro mm
    induction mm with
    | zero =>
      intro num rw' left _ hl hf
      refine zv_go C okX9_row [] 20 ?_
      refine ⟨rfl, fun _ => ?_, fun h => absurd (nI_le (by omega) (by omega)) h⟩
      have hf := Option.some.inj hf
      subst hf
      exact zr R () [0, 1, 2] (some (.long _)) _ rfl rfl trivial rfl rfl (Nat.zero_le _) (Nat.zero_le _) dzX9_row_158
    | succ mm ih =>
      intro num rw' left hm hl hf
      have enx : nI (n - (mm + 1)) + 1 = nI (n - mm) := by rw [nI_1]; congr 1; omega
      rw [mrF] at hf
      cases hv : mrV Lf n (foA Lf n g0) left n 0 num with
      | none => rw [hv] at hf; cases hf
      | some z =>
        rw [hv] at hf
        have hf : mrF Lf n (foA Lf n g0) mm z.2 (rw' ||| ((nI z.1).toInt64 <<< ((nI (4 * (n - (mm + 1)))).toInt64 &&& 63))) (ndf left (2 ^ z.1)) = some res := hf
        refine zv_go C okX9_row [58] 20 ?_
        refine ⟨rfl, fun h => absurd h (nI_ge (by omega) (by omega)), fun _ => ?_⟩
        refine inner (foA Lf n g0) rw' (n - (mm + 1)) left hl z.1 z.2 (fun hz => ?_) n 0 num (by omega) hv
        refine zv_go C okX9_row [46] 30 ?_
        refine zv_drop C [0, 1, 2, 3, 4, 5] (lv' := [(0, .ref (A 0)), (1, .long k), (3, .long (rw' ||| ((nI z.1).toInt64 <<< ((nI (4 * (n - (mm + 1)))).toInt64 &&& 63)))), (5, .long z.2), (7, .int (nI (ndf left (2 ^ z.1)))), (8, .int (nI (n - mm)))]) ?_ ?_
        · rw [← enx, ← nb_clr left z.1 (by omega), ← pk_mul]
          rfl
        · exact ih _ _ _ (by omega) (Nat.lt_of_le_of_lt (ndf_le _ _) hl) hf
  refine zv_go C okX9_row [] 20 ?_
  refine ⟨rfl, ?_⟩
  refine zv_callV C (m_findOrders K A n cc Lf (A 1) g0 hn) (zw_V inX9_findOrders kX9_96 ⟨by decide, by decide⟩) [0, 1, 2] 0 rfl rfl rfl rfl (fun _ => Nat.le_refl _) rfl rfl (by decide) dzX9_row_5 (by decide) (by decide) rfl (fun _ _ => ?_)
  refine zv_to C rfl rfl (ws' := [mO A n cc, mZ K (A 1) Lf, mJ K (A 3) (foA Lf n g0)]) rfl ?_
  refine zv_go C okX9_row [] 20 ?_
  refine ⟨fun h1 => ?_, fun h1 => ⟨rfl, ?_⟩⟩
  · rw [lg_cmp_lt] at h1
    exact absurd (Or.inl h1) h
  refine zv_callV C (m_all K A n cc hn) (zw_V inX9_all kX9_61 ⟨by decide, by decide⟩) [0] 0 rfl rfl rfl rfl (fun _ => Nat.le_refl _) (rest := [.ref (A 3), .long k]) rfl rfl (Nat.le_of_ble_eq_true rfl) dzX9_row_20 (by decide) (by decide) rfl (fun _ _ => ?_)
  refine zv_to C rfl rfl (ws' := [mO A n cc, mZ K (A 1) Lf, mJ K (A 3) (foA Lf n g0)]) rfl ?_
  refine zv_go C okX9_row [] 12 ?_
  refine ⟨⟨rfl, rfl⟩, vp_in_nI (by omega) (by decide), fun h2 => ?_, fun h2 => ?_⟩
  rotate_left
  · rw [lg_cmp_lt] at h2
    have h2 : ¬ k < (foA Lf n g0) (nI (2 ^ n - 1)).toNatClampNeg := h2
    rw [nI_clamp (by omega)] at h2
    exact absurd (Or.inr (Int64.not_lt.mp h2)) h
  refine zv_callV C (m_all K A n cc hn) (zw_V inX9_all kX9_61 ⟨by decide, by decide⟩) [0] 0 rfl rfl rfl rfl (fun _ => Nat.le_refl _) rfl rfl (by decide) dzX9_row_38 (by decide) (by decide) rfl (fun _ _ => ?_)
  refine zv_to C rfl rfl (ws' := [mO A n cc, mZ K (A 1) Lf, mJ K (A 3) (foA Lf n g0)]) rfl ?_
  refine zv_go C okX9_row [46] 20 ?_
  exact zv_to C (lv' := [(0, .ref (A 0)), (1, .long k), (3, .long 0), (5, .long k), (7, .int (nI (2 ^ n - 1))), (8, .int (nI (n - n)))]) (by rw [Nat.sub_self] <;> rfl) rfl rfl (loop n k 0 (2 ^ n - 1) (Nat.le_refl _) (by omega) hr)
set_option maxHeartbeats 4000000 in
set_option maxRecDepth 100000 in
theorem m_rank (Lf : Nat → Bool) (g0 : Nat → Int64) (row : Int64) (hn : n ≤ 14) : zD K yX9_rank cX9_rank 9 (some .long) (zq 2 0 0 80) [.ref (A 0), .long row] [mO A n cc, mZ K (A 1) Lf, mJ K (A 3) g0] (some (.long (mkF Lf n (foA Lf n g0) row 16 0 (2 ^ n - 1)))) [mO A n cc, mZ K (A 1) Lf, mJ K (A 3) (foA Lf n g0)] := by
  refine zo (by decide) (Nat.le_of_ble_eq_true rfl) fun x C R _ => ?_
  have hp : 0 < 2 ^ n := Nat.two_pow_pos n
  have hp14 := pow_le14 hn
  have inner : ∀ (GG : Nat → Int64) (num : Int64) (left pl d : Nat), left < 2 ^ n → d < n → (zv_V x (gz K (zq 2 0 0 80) 9 cX9_rank yX9_rank.cls) 129 [(0, .ref (A 0)), (1, .long row), (3, .long (msm Lf n GG num left d)), (5, .int (nI left)), (6, .int (nI pl)), (7, .int (nI d)), (8, .int (nI d))] [] [mO A n cc, mZ K (A 1) Lf, mJ K (A 3) GG] 0 0) → ∀ u, u ≤ d → zv_V x (gz K (zq 2 0 0 80) 9 cX9_rank yX9_rank.cls) 84 [(0, .ref (A 0)), (1, .long row), (3, .long (msm Lf n GG num left u)), (5, .int (nI left)), (6, .int (nI pl)), (7, .int (nI d)), (8, .int (nI u))] [] [mO A n cc, mZ K (A 1) Lf, mJ K (A 3) GG] 0 0 := by
    intro GG num left pl d hl hd hend
    refine zl d ?_ fun u hu ih => ?_
    · refine zv_go C okX9_rank [129] 20 ?_
      refine ⟨fun _ => ?_, fun h => absurd (nI_le (Nat.le_refl _) (by omega)) h⟩
      exact hend
    · have ec : nI left &&& ((1 : Int32) <<< (nI u &&& 31) ^^^ (-1)) = nI (ndf left (2 ^ u)) := nb_clr _ _ (by omega)
      have hle := ndf_le left (2 ^ u)
      have ein : vp_in (nI left &&& ((1 : Int32) <<< (nI u &&& 31) ^^^ (-1))) 16384 := by rw [ec]; exact vp_in_nI (by omega) (by decide)
      have ecl : (nI left &&& ((1 : Int32) <<< (nI u &&& 31) ^^^ (-1))).toNatClampNeg = ndf left (2 ^ u) := by rw [ec]; exact nI_clamp (by omega)
      refine zv_go C okX9_rank [] 20 ?_
      refine ⟨fun h => absurd h (nI_ge (by omega) (by omega)), fun _ => ?_⟩
      refine zv_callV C (m_mayCome K A n cc Lf (v := u) (s := left) (by omega) (by omega) hn) (zw_V inX9_mayCome kX9_101 ⟨by decide, by decide⟩) [0, 1] 0 rfl rfl rfl rfl (fun _ => Nat.le_refl _) (rest := [.long (msm Lf n GG num left u)]) rfl rfl (Nat.le_of_ble_eq_true rfl) dzX9_rank_97 (by decide) (by decide) rfl (fun _ _ => ?_)
      refine zv_to C rfl rfl (ws' := [mO A n cc, mZ K (A 1) Lf, mJ K (A 3) GG]) rfl ?_
      refine zv_go C okX9_rank [84] 30 ?_
      refine ⟨fun h1 => ?_, fun h1 => ⟨rfl, ⟨rfl, rfl⟩, ein, ?_⟩⟩
      · rw [bI_0] at h1
        exact zv_to C (lv' := [(0, .ref (A 0)), (1, .long row), (3, .long (msm Lf n GG num left (u + 1))), (5, .int (nI left)), (6, .int (nI pl)), (7, .int (nI d)), (8, .int (nI (u + 1)))]) (by rw [msm, h1, ← nI_1 u] <;> rfl) rfl rfl ih
      · rw [bI_1] at h1
        refine zv_to C (lv' := [(0, .ref (A 0)), (1, .long row), (3, .long (msm Lf n GG num left (u + 1))), (5, .int (nI left)), (6, .int (nI pl)), (7, .int (nI d)), (8, .int (nI (u + 1)))]) ?_ rfl rfl ih
        show [_, _, (3, Value.long (msm Lf n GG num left u + GG (nI left &&& ((1 : Int32) <<< (nI u &&& 31) ^^^ (-1))).toNatClampNeg)), _, _, _, (8, Value.int (nI u + 1))] = _
        rw [ecl, msm, if_pos h1, nI_1]
  have loop : ∀ mm (num : Int64) (left : Nat), mm ≤ 16 → left < 2 ^ n → mkF Lf n (foA Lf n g0) row mm num left = mkF Lf n (foA Lf n g0) row 16 0 (2 ^ n - 1) → zv_V x (gz K (zq 2 0 0 80) 9 cX9_rank yX9_rank.cls) 19 [(0, .ref (A 0)), (1, .long row), (3, .long num), (5, .int (nI left)), (6, .int (nI (16 - mm)))] [] [mO A n cc, mZ K (A 1) Lf, mJ K (A 3) (foA Lf n g0)] 0 0 := by
    intro mm
    induction mm with
    | zero =>
      intro num left _ hl hf
      refine zv_go C okX9_rank [] 20 ?_
      refine ⟨fun _ => ?_, fun h => absurd (by decide) h⟩
      exact zr R () [0, 1, 2] (some (.long _)) _ (by rw [← hf] <;> rfl) rfl trivial rfl rfl (Nat.zero_le _) (Nat.zero_le _) dzX9_rank_147
    | succ mm ih =>
      intro num left hm hl hf
      have enx : nI (15 - mm) + 1 = nI (16 - mm) := by rw [nI_1]; congr 1; omega
      have e15 : 16 - (mm + 1) = 15 - mm := by omega
      obtain ⟨d1, d2⟩ := mdt_ok row (15 - mm)
      rw [mkF] at hf
      rw [e15]
      refine zv_go C okX9_rank [39] 20 ?_
      refine ⟨fun h => absurd h (nI_ge (b := 16) (by omega) (by omega)), fun _ => ?_⟩
      refine zv_to C (lv' := [(0, .ref (A 0)), (1, .long row), (3, .long num), (5, .int (nI left)), (6, .int (nI (15 - mm))), (7, .int (nI (mdt row (15 - mm))))]) (by rw [← d1]; unfold mdg; rw [← pk_mul] <;> rfl) rfl rfl ?_
      generalize hdd : mdt row (15 - mm) = d at d2 hf ⊢
      refine zv_go C okX9_rank [140] 20 ?_
      refine ⟨rfl, fun h1 => ⟨rfl, fun h2 => ?_, fun h2 => ?_⟩, fun h1 => ⟨fun h2 => ?_, fun h2 => ?_⟩⟩
      · rw [nI_ltI (by omega) (by omega)] at h1
        have h2 := (nI_leI (by omega) (by omega)).mp h2
        rw [if_neg (by omega), if_neg (fun q => by omega)] at hf
        exact zr R () [0, 1, 2] (some (.long _)) _ (by rw [← hf]) rfl trivial rfl rfl (Nat.zero_le _) (Nat.zero_le _) dzX9_rank_80
      · rw [nI_ltI (by omega) (by omega)] at h1
        have h2 : ¬ n ≤ d := fun z => h2 ((nI_leI (by omega) (by omega)).mpr z)
        rw [if_neg (by omega)] at hf
        refine zv_callV C (m_mayCome K A n cc Lf (v := d) (s := left) (by omega) (by omega) hn) (zw_V inX9_mayCome kX9_101 ⟨by decide, by decide⟩) [0, 1] 0 rfl rfl rfl rfl (fun _ => Nat.le_refl _) rfl rfl (by decide) dzX9_rank_71 (by decide) (by decide) rfl (fun _ _ => ?_)
        refine zv_to C rfl rfl (ws' := [mO A n cc, mZ K (A 1) Lf, mJ K (A 3) (foA Lf n g0)]) rfl ?_
        refine zv_go C okX9_rank [84] 20 ?_
        refine ⟨fun h3 => ?_, fun h3 => ?_⟩
        · rw [bI_1] at h3
          rw [if_pos ⟨by omega, h3⟩] at hf
          refine inner (foA Lf n g0) num left (15 - mm) d hl (by omega) ?_ 0 (Nat.zero_le _)
          refine zv_go C okX9_rank [19] 20 ?_
          refine zv_drop C [0, 1, 2, 3, 4] (lv' := [(0, .ref (A 0)), (1, .long row), (3, .long (msm Lf n (foA Lf n g0) num left d)), (5, .int (nI (ndf left (2 ^ d)))), (6, .int (nI (16 - mm)))]) ?_ ?_
          · rw [← enx, ← nb_clr left d (by omega)]
            rfl
          · exact ih _ _ (by omega) (Nat.lt_of_le_of_lt (ndf_le _ _) hl) hf
        · rw [bI_0] at h3
          rw [if_neg (fun q => by rw [h3] at q; cases q.2)] at hf
          exact zr R () [0, 1, 2] (some (.long _)) _ (by rw [← hf]) rfl trivial rfl rfl (Nat.zero_le _) (Nat.zero_le _) dzX9_rank_80
      · have h1 : n ≤ 15 - mm := by
          refine Nat.le_of_not_lt fun z => h1 ?_
          exact nI_lt z (by omega)
        rw [nb_0 (by omega)] at h2
        rw [if_pos h1, if_pos h2] at hf
        refine zv_go C okX9_rank [19] 20 ?_
        refine zv_drop C [0, 1, 2, 3, 4] (lv' := [(0, .ref (A 0)), (1, .long row), (3, .long num), (5, .int (nI left)), (6, .int (nI (16 - mm)))]) ?_ ?_
        · rw [← enx]
          rfl
        · exact ih _ _ (by omega) hl hf
      · have h1 : n ≤ 15 - mm := by
          refine Nat.le_of_not_lt fun z => h1 ?_
          exact nI_lt z (by omega)
        rw [nb_0 (by omega)] at h2
        rw [if_pos h1, if_neg h2] at hf
        exact zr R () [0, 1, 2] (some (.long _)) _ (by rw [← hf]) rfl trivial rfl rfl (Nat.zero_le _) (Nat.zero_le _) dzX9_rank_56
  refine zv_go C okX9_rank [] 20 ?_
  refine ⟨rfl, ?_⟩
  refine zv_callV C (m_findOrders K A n cc Lf (A 1) g0 hn) (zw_V inX9_findOrders kX9_96 ⟨by decide, by decide⟩) [0, 1, 2] 0 rfl rfl rfl rfl (fun _ => Nat.le_refl _) rfl rfl (by decide) dzX9_rank_5 (by decide) (by decide) rfl (fun _ _ => ?_)
  refine zv_to C rfl rfl (ws' := [mO A n cc, mZ K (A 1) Lf, mJ K (A 3) (foA Lf n g0)]) rfl ?_
  refine zv_go C okX9_rank [] 20 ?_
  refine zv_callV C (m_all K A n cc hn) (zw_V inX9_all kX9_61 ⟨by decide, by decide⟩) [0] 0 rfl rfl rfl rfl (fun _ => Nat.le_refl _) rfl rfl (by decide) dzX9_rank_11 (by decide) (by decide) rfl (fun _ _ => ?_)
  refine zv_to C rfl rfl (ws' := [mO A n cc, mZ K (A 1) Lf, mJ K (A 3) (foA Lf n g0)]) rfl ?_
  refine zv_go C okX9_rank [19] 20 ?_
  exact zv_to C (lv' := [(0, .ref (A 0)), (1, .long row), (3, .long 0), (5, .int (nI (2 ^ n - 1))), (6, .int (nI (16 - 16)))]) rfl rfl rfl (loop 16 0 (2 ^ n - 1) (Nat.le_refl _) (by omega) rfl)
end MF
end
section
/-! THE MODEL: cuts -/
def isCut (Lf : Nat → Bool) (n s : Nat) : Bool := decide (setB (qbelow Lf n (setB (qabove Lf n s) n)) n = s)
def fcN (Lf : Nat → Bool) (n : Nat) : Nat → Nat
  | 0 => 0
  | k + 1 => fcN Lf n k + (isCut Lf n k).toNat
def fcV (Lf : Nat → Bool) (n : Nat) : Nat → Nat → Nat
  | 0, _ => 0
  | k + 1, j => if isCut Lf n k = true ∧ fcN Lf n k = j then k else fcV Lf n k j
/-- the row of cuts as it stands in the model -/
def fcA (Lf : Nat → Bool) (n : Nat) (f : Nat → Int32) (k : Nat) : Nat → Int32 := fun j => if j < fcN Lf n k then nI (fcV Lf n k j) else f j
abbrev mcN (Lf : Nat → Bool) (n : Nat) : Nat := fcN Lf n (2 ^ n)
abbrev mcV (Lf : Nat → Bool) (n : Nat) : Nat → Nat := fcV Lf n (2 ^ n)
theorem fcN_le (Lf : Nat → Bool) (n : Nat) : ∀ k, fcN Lf n k ≤ k
  | 0 => Nat.le_refl _
  | k + 1 => by
    have h := fcN_le Lf n k
    unfold fcN
    cases isCut Lf n k <;> simp <;> omega
theorem fcV_lt (Lf : Nat → Bool) (n : Nat) : ∀ k j, j < fcN Lf n k → fcV Lf n k j < k
  | 0, j, h => absurd h (Nat.not_lt_zero _)
  | k + 1, j, h => by
    unfold fcV
    split
    · omega
    · rename_i h2
      unfold fcN at h
      cases hc : isCut Lf n k with
      | true =>
        rw [hc] at h h2
        have h3 : ¬ fcN Lf n k = j := fun e => h2 ⟨rfl, e⟩
        have h : j < fcN Lf n k + 1 := h
        have := fcV_lt Lf n k j (by omega)
        omega
      | false =>
        rw [hc] at h
        have := fcV_lt Lf n k j h
        omega
theorem fcA_s (Lf : Nat → Bool) (n : Nat) (f : Nat → Int32) (k : Nat) (h : isCut Lf n k = true) : upd (fcA Lf n f k) (fcN Lf n k) (nI k) = fcA Lf n f (k + 1) := by
  funext j
  unfold fcA
  have e : fcN Lf n (k + 1) = fcN Lf n k + 1 := by rw [fcN, h]; rfl
  rw [e]
  by_cases hj : j = fcN Lf n k
  · subst hj
    rw [pk_us, if_pos (Nat.lt_succ_self _), fcV, if_pos ⟨h, rfl⟩]
  · have ev : fcV Lf n (k + 1) j = fcV Lf n k j := by rw [fcV, if_neg (fun q : isCut Lf n k = true ∧ fcN Lf n k = j => hj q.2.symm)]
    rw [pk_un hj, ev]
    by_cases h2 : j < fcN Lf n k
    · rw [if_pos h2, if_pos (by omega)]
    · rw [if_neg h2, if_neg (by omega)]
theorem fcA_n (Lf : Nat → Bool) (n : Nat) (f : Nat → Int32) (k : Nat) (h : isCut Lf n k = false) : fcA Lf n f k = fcA Lf n f (k + 1) := by
  funext j
  unfold fcA
  have e : fcN Lf n (k + 1) = fcN Lf n k := by rw [fcN, h]; rfl
  have ev : fcV Lf n (k + 1) j = fcV Lf n k j := by rw [fcV, if_neg (fun q : isCut Lf n k = true ∧ fcN Lf n k = j => by rw [h] at q; cases q.1)]
  rw [e, ev]
theorem fcN_s (Lf : Nat → Bool) (n k : Nat) (h : isCut Lf n k = true) : nI (fcN Lf n k) + 1 = nI (fcN Lf n (k + 1)) := by
  rw [fcN, h, nI_1]
  rfl
theorem fcN_n (Lf : Nat → Bool) (n k : Nat) (h : isCut Lf n k = false) : fcN Lf n k = fcN Lf n (k + 1) := by
  rw [fcN, h]
  rfl
def exF (cv : Nat → Nat) (ov : Bool) (s k : Nat) : Bool := if ov = true then decide (cv k &&& s = s) else decide (ndf (cv k) s = 0)
def exB (cv : Nat → Nat) (ov : Bool) (o : Option Nat) (k : Nat) : Bool := match o with
  | none => true
  | some j => if ov = true then decide (ndf (cv k) (cv j) = 0) else decide (ndf (cv j) (cv k) = 0)
theorem exB_1 {cv : Nat → Nat} {ov : Bool} {j k : Nat} (h : ov = true) : exB cv ov (some j) k = decide (ndf (cv k) (cv j) = 0) := if_pos h
theorem exB_0 {cv : Nat → Nat} {ov : Bool} {j k : Nat} (h : ov = false) : exB cv ov (some j) k = decide (ndf (cv j) (cv k) = 0) := if_neg (by rw [h]; simp)
def exS (cv : Nat → Nat) (ov : Bool) (s : Nat) : Nat → Option Nat
  | 0 => none
  | k + 1 => if (exF cv ov s k && exB cv ov (exS cv ov s k) k) = true then some k else exS cv ov s k
theorem exS_lt {cv : Nat → Nat} {ov : Bool} {s : Nat} : ∀ k j, exS cv ov s k = some j → j < k
  | 0, j, h => by cases h
  | k + 1, j, h => by
    unfold exS at h
    split at h
    · cases h; omega
    · have := exS_lt k j h; omega
theorem nb_n0 {a b : Nat} (ha : a < 2 ^ 14) : nI a &&& (nI b ^^^ (-1)) = 0 ↔ ndf a b = 0 := by
  rw [nb_not, nb_0 (Nat.lt_of_le_of_lt (ndf_le _ _) (by omega))]
section MG
variable (K : zK) (A : Nat → Nat) (n : Nat) (cc : Int32)
set_option maxHeartbeats 4000000 in
set_option maxRecDepth 100000 in
theorem m_findCuts (Lf : Nat → Bool) (f0 : Nat → Int32) (hn : n ≤ 14) : zD K yX9_findCuts cX9_findCuts 2 none (zq 2 0 0 80) [.ref (A 0)] [mO A n cc, mZ K (A 1) Lf, mI K (A 4) 16384 f0] none [mO A n (nI (mcN Lf n)), mZ K (A 1) Lf, mI K (A 4) 16384 (fcA Lf n f0 (2 ^ n))] := by
  refine zo (by decide) (Nat.le_of_ble_eq_true rfl) fun x C R _ => ?_
  have hp : 0 < 2 ^ n := Nat.two_pow_pos n
  have hp14 := pow_le14 hn
  have loop : ∀ k, k ≤ 2 ^ n → zv_V x (gz K (zq 2 0 0 80) 2 cX9_findCuts yX9_findCuts.cls) 7 [(0, .ref (A 0)), (1, .int (nI k))] [] [mO A n (nI (fcN Lf n k)), mZ K (A 1) Lf, mI K (A 4) 16384 (fcA Lf n f0 k)] 0 0 := by
    refine zl (2 ^ n) ?_ fun k hk ih => ?_
    · refine zv_go C okX9_findCuts [] 20 ?_
      refine zv_callV C (m_all K A n (nI (fcN Lf n (2 ^ n))) hn) (zw_V inX9_all kX9_61 ⟨by decide, by decide⟩) [0] 0 rfl rfl rfl rfl (fun _ => Nat.le_refl _) (rest := [.int (nI (2 ^ n))]) rfl rfl (Nat.le_of_ble_eq_true rfl) dzX9_findCuts_9 (by decide) (by decide) rfl (fun _ _ => ?_)
      refine zv_to C rfl rfl (ws' := [mO A n (nI (fcN Lf n (2 ^ n))), mZ K (A 1) Lf, mI K (A 4) 16384 (fcA Lf n f0 (2 ^ n))]) rfl ?_
      refine zv_go C okX9_findCuts [] 20 ?_
      refine ⟨fun _ => ?_, fun h => absurd (nI_lt (by omega) (by omega)) h⟩
      exact zr R () [0, 1, 2] none _ rfl rfl trivial rfl rfl (Nat.zero_le _) (Nat.zero_le _) dzX9_findCuts_54
    · have hle := fcN_le Lf n k
      have hab : (setB (qabove Lf n k) n) < 2 ^ 14 := Nat.lt_of_lt_of_le (setB_lt n) (by omega)
      have hbl : setB (qbelow Lf n (setB (qabove Lf n k) n)) n < 2 ^ 14 := Nat.lt_of_lt_of_le (setB_lt n) (by omega)
      refine zv_go C okX9_findCuts [] 20 ?_
      refine zv_callV C (m_all K A n (nI (fcN Lf n k)) hn) (zw_V inX9_all kX9_61 ⟨by decide, by decide⟩) [0] 0 rfl rfl rfl rfl (fun _ => Nat.le_refl _) (rest := [.int (nI k)]) rfl rfl (Nat.le_of_ble_eq_true rfl) dzX9_findCuts_9 (by decide) (by decide) rfl (fun _ _ => ?_)
      refine zv_to C rfl rfl (ws' := [mO A n (nI (fcN Lf n k)), mZ K (A 1) Lf, mI K (A 4) 16384 (fcA Lf n f0 k)]) rfl ?_
      refine zv_go C okX9_findCuts [] 20 ?_
      refine ⟨fun h => absurd h (nI_nlt (by omega) (by omega)), fun _ => ?_⟩
      refine zv_callV C (m_above K A n (nI (fcN Lf n k)) Lf (s := k) (by omega) hn) (zw_V inX9_above kX9_106 ⟨by decide, by decide⟩) [0, 1] 0 rfl rfl rfl rfl (fun _ => Nat.le_refl _) (rest := [.ref (A 0)]) rfl rfl (Nat.le_of_ble_eq_true rfl) dzX9_findCuts_18 (by decide) (by decide) rfl (fun _ _ => ?_)
      refine zv_to C rfl rfl (ws' := [mO A n (nI (fcN Lf n k)), mZ K (A 1) Lf, mI K (A 4) 16384 (fcA Lf n f0 k)]) rfl ?_
      refine zv_go C okX9_findCuts [] 20 ?_
      refine zv_callV C (m_below K A n (nI (fcN Lf n k)) Lf (s := (setB (qabove Lf n k) n)) hab hn) (zw_V inX9_below kX9_109 ⟨by decide, by decide⟩) [0, 1] 0 rfl rfl rfl rfl (fun _ => Nat.le_refl _) rfl rfl (by decide) dzX9_findCuts_21 (by decide) (by decide) rfl (fun _ _ => ?_)
      refine zv_to C rfl rfl (ws' := [mO A n (nI (fcN Lf n k)), mZ K (A 1) Lf, mI K (A 4) 16384 (fcA Lf n f0 k)]) rfl ?_
      refine zv_go C okX9_findCuts [7] 30 ?_
      refine ⟨fun h => ?_, fun h => ⟨rfl, rfl, ⟨rfl, rfl⟩, vp_in_nI (by omega) (by decide), rfl, rfl, ?_⟩⟩
      · rw [nb_inj (by omega) (by omega)] at h
        have hc : isCut Lf n k = false := decide_eq_false h
        refine zv_to C (lv' := [(0, .ref (A 0)), (1, .int (nI (k + 1)))]) (by rw [← nI_1 k] <;> rfl) rfl (ws' := [mO A n (nI (fcN Lf n (k + 1))), mZ K (A 1) Lf, mI K (A 4) 16384 (fcA Lf n f0 (k + 1))]) (by rw [← fcA_n Lf n f0 k hc, ← fcN_n Lf n k hc]) ih
      · rw [nb_inj (by omega) (by omega)] at h
        have hc : isCut Lf n k = true := decide_eq_true h
        refine zv_to C (lv' := [(0, .ref (A 0)), (1, .int (nI (k + 1)))]) (by rw [← nI_1 k] <;> rfl) rfl (ws' := [mO A n (nI (fcN Lf n (k + 1))), mZ K (A 1) Lf, mI K (A 4) 16384 (fcA Lf n f0 (k + 1))]) ?_ ih
        show [mO A n (nI (fcN Lf n k) + 1), _, (A 4, Sum.inl (cI K, 16384, Sum.inl (upd (fcA Lf n f0 k) (nI (fcN Lf n k)).toNatClampNeg (nI k))))] = _
        rw [nI_clamp (by omega), fcA_s Lf n f0 k hc, fcN_s Lf n k hc]
  refine zv_go C okX9_findCuts [7] 20 ?_
  refine ⟨rfl, ?_⟩
  refine zv_to C rfl rfl (ws' := [mO A n (nI (fcN Lf n 0)), mZ K (A 1) Lf, mI K (A 4) 16384 (fcA Lf n f0 0)]) ?_ (loop 0 (Nat.zero_le _))
  have e : fcA Lf n f0 0 = f0 := by
    funext j
    unfold fcA
    exact if_neg (Nat.not_lt_zero _)
  rw [e]
  rfl
set_option maxHeartbeats 4000000 in
set_option maxRecDepth 100000 in
theorem m_cut_no (Lf : Nat → Bool) (f0 : Nat → Int32) (k : Int32) (h : hasb (mcN Lf n) k = false) (hn : n ≤ 14) : zD K yX9_cut cX9_cut 2 (some .int) (zq 3 0 0 120) [.ref (A 0), .int k] [mO A n cc, mZ K (A 1) Lf, mI K (A 4) 16384 f0] (some (.int (-1))) [mO A n (nI (mcN Lf n)), mZ K (A 1) Lf, mI K (A 4) 16384 (fcA Lf n f0 (2 ^ n))] := by
  refine zo (by decide) (Nat.le_of_ble_eq_true rfl) fun x C R _ => ?_
  have hp : 0 < 2 ^ n := Nat.two_pow_pos n
  have hp14 := pow_le14 hn
  have hNle : mcN Lf n ≤ 2 ^ n := fcN_le Lf n (2 ^ n)
  have hfa : ∀ j, j < mcN Lf n → fcA Lf n f0 (2 ^ n) j = nI (mcV Lf n j) := fun j hj => if_pos hj
  have hcl : ∀ j, j < mcN Lf n → mcV Lf n j < 2 ^ 14 := fun j hj => Nat.lt_of_lt_of_le (fcV_lt Lf n (2 ^ n) j hj) (by omega)
  refine zv_go C okX9_cut [] 20 ?_
  refine zv_callV C (m_findCuts K A n cc Lf f0 hn) (zw_V inX9_findCuts kX9_87 ⟨by decide, by decide⟩) [0, 1, 2] 0 rfl rfl rfl rfl (fun _ => Nat.le_refl _) rfl rfl (by decide) dzX9_cut_1 (by decide) (by decide) rfl (fun _ _ => ?_)
  refine zv_to C rfl rfl (ws' := [mO A n (nI (mcN Lf n)), mZ K (A 1) Lf, mI K (A 4) 16384 (fcA Lf n f0 (2 ^ n))]) rfl ?_
  refine zv_go C okX9_cut [] 20 ?_
  refine ⟨fun h1 => ?_, fun h1 => ⟨rfl, fun h2 => ?_, fun h2 => ?_⟩⟩
  · exact zr R () [0, 1, 2] (some (.int (-1))) _ rfl rfl trivial rfl rfl (Nat.zero_le _) (Nat.zero_le _) dzX9_cut_26
  · unfold hasb at h
    rw [decide_eq_false_iff_not] at h
    exact absurd ⟨Int32.not_lt.mp h1, h2⟩ h
  · exact zr R () [0, 1, 2] (some (.int (-1))) _ rfl rfl trivial rfl rfl (Nat.zero_le _) (Nat.zero_le _) dzX9_cut_26
set_option maxHeartbeats 4000000 in
set_option maxRecDepth 100000 in
theorem m_cut (Lf : Nat → Bool) (f0 : Nat → Int32) {j : Nat} (hj : j < mcN Lf n) (hn : n ≤ 14) : zD K yX9_cut cX9_cut 2 (some .int) (zq 3 0 0 120) [.ref (A 0), .int (nI j)] [mO A n cc, mZ K (A 1) Lf, mI K (A 4) 16384 f0] (some (.int (nI (mcV Lf n j)))) [mO A n (nI (mcN Lf n)), mZ K (A 1) Lf, mI K (A 4) 16384 (fcA Lf n f0 (2 ^ n))] := by
  refine zo (by decide) (Nat.le_of_ble_eq_true rfl) fun x C R _ => ?_
  have hp : 0 < 2 ^ n := Nat.two_pow_pos n
  have hp14 := pow_le14 hn
  have hNle : mcN Lf n ≤ 2 ^ n := fcN_le Lf n (2 ^ n)
  have hfa : ∀ j, j < mcN Lf n → fcA Lf n f0 (2 ^ n) j = nI (mcV Lf n j) := fun j hj => if_pos hj
  have hcl : ∀ j, j < mcN Lf n → mcV Lf n j < 2 ^ 14 := fun j hj => Nat.lt_of_lt_of_le (fcV_lt Lf n (2 ^ n) j hj) (by omega)
  refine zv_go C okX9_cut [] 20 ?_
  refine zv_callV C (m_findCuts K A n cc Lf f0 hn) (zw_V inX9_findCuts kX9_87 ⟨by decide, by decide⟩) [0, 1, 2] 0 rfl rfl rfl rfl (fun _ => Nat.le_refl _) rfl rfl (by decide) dzX9_cut_1 (by decide) (by decide) rfl (fun _ _ => ?_)
  refine zv_to C rfl rfl (ws' := [mO A n (nI (mcN Lf n)), mZ K (A 1) Lf, mI K (A 4) 16384 (fcA Lf n f0 (2 ^ n))]) rfl ?_
  refine zv_go C okX9_cut [] 20 ?_
  refine ⟨fun h1 => ?_, fun h1 => ⟨rfl, fun h2 => ⟨rfl, ⟨rfl, rfl⟩, vp_in_nI (by omega) (by decide), ?_⟩, fun h2 => ?_⟩⟩
  · exact absurd h1 (nI_nlt (b := 0) (Nat.zero_le _) (by omega))
  · exact zr R () [0, 1, 2] (some (.int _)) _ (by rw [nI_clamp (by omega), hfa j hj]) rfl trivial rfl rfl (Nat.zero_le _) (Nat.zero_le _) dzX9_cut_26
  · exact absurd (nI_lt hj (by omega)) h2
set_option maxHeartbeats 4000000 in
set_option maxRecDepth 100000 in
theorem m_extreme (cv : Nat → Nat) (N : Nat) (f : Nat → Int32) (ov : Bool) {s : Nat} (hN : N ≤ 16384) (hs : s < 2 ^ 14) (hf : ∀ j, j < N → f j = nI (cv j)) (hc : ∀ j, j < N → cv j < 2 ^ 14) : zD K yX9_extreme cX9_extreme 7 (some .int) (zq 0 0 0 0) [.ref (A 0), .int (nI s), .int (bI ov)] [mO A n (nI N), mI K (A 4) 16384 f] (some (.int (oI (exS cv ov s N)))) [mO A n (nI N), mI K (A 4) 16384 f] := by
  refine zo (by decide) (Nat.le_of_ble_eq_true rfl) fun x C R _ => ?_
  have loop : ∀ k, k ≤ N → zv_V x (gz K (zq 0 0 0 0) 7 cX9_extreme yX9_extreme.cls) 5 [(0, .ref (A 0)), (1, .int (nI s)), (2, .int (bI ov)), (3, .int (oI (exS cv ov s k))), (4, .int (nI k))] [] [mO A n (nI N), mI K (A 4) 16384 f] 0 0 := by
    refine zl N ?_ fun k hk ih => ?_
    · refine zv_go C okX9_extreme [] 20 ?_
      refine ⟨rfl, fun _ => ?_, fun h => absurd (nI_le (Nat.le_refl _) (by omega)) h⟩
      exact zr R () [0, 1] (some (.int _)) _ rfl rfl trivial rfl rfl (Nat.zero_le _) (Nat.zero_le _) dzX9_extreme_141
    · have ek : (nI k).toNatClampNeg = k := nI_clamp (by omega)
      have kin : vp_in (nI k) 16384 := vp_in_nI (by omega) (by decide)
      have hck := hc k hk
      have fin : ∀ o, exS cv ov s k = o → ∀ a b : Bool, a = exF cv ov s k → b = exB cv ov o k → zv_V x (gz K (zq 0 0 0 0) 7 cX9_extreme yX9_extreme.cls) 115 [(0, .ref (A 0)), (1, .int (nI s)), (2, .int (bI ov)), (3, .int (oI o)), (4, .int (nI k)), (5, .int (bI a))] [.int (bI b)] [mO A n (nI N), mI K (A 4) 16384 f] 0 0 := by
        intro o ho a b ha hb
        have step : (exS cv ov s (k + 1)) = if (a && b) = true then some k else o := by rw [exS, ho, ← ha, ← hb]
        refine zv_go C okX9_extreme [5] 20 ?_
        refine ⟨fun h => ?_, fun h => ⟨fun h2 => ?_, fun h2 => ?_⟩⟩
        · rw [bI_0] at h
          refine zv_drop C [0, 1, 2, 3, 4] (lv' := [(0, .ref (A 0)), (1, .int (nI s)), (2, .int (bI ov)), (3, .int (oI (exS cv ov s (k + 1)))), (4, .int (nI (k + 1)))]) ?_ ih
          rw [step, if_neg (by rw [h]; simp), ← nI_1 k]
          rfl
        · rw [bI_0] at h2
          refine zv_drop C [0, 1, 2, 3, 4] (lv' := [(0, .ref (A 0)), (1, .int (nI s)), (2, .int (bI ov)), (3, .int (oI (exS cv ov s (k + 1)))), (4, .int (nI (k + 1)))]) ?_ ih
          rw [step, if_neg (by rw [h2]; simp), ← nI_1 k]
          rfl
        · rw [bI_1] at h h2
          refine zv_drop C [0, 1, 2, 3, 4] (lv' := [(0, .ref (A 0)), (1, .int (nI s)), (2, .int (bI ov)), (3, .int (oI (exS cv ov s (k + 1)))), (4, .int (nI (k + 1)))]) ?_ ih
          rw [step, if_pos (by rw [h, h2]; rfl), ← nI_1 k]
          rfl
      have mid : ∀ a : Bool, a = exF cv ov s k → zv_V x (gz K (zq 0 0 0 0) 7 cX9_extreme yX9_extreme.cls) 58 [(0, .ref (A 0)), (1, .int (nI s)), (2, .int (bI ov)), (3, .int (oI (exS cv ov s k))), (4, .int (nI k))] [.int (bI a)] [mO A n (nI N), mI K (A 4) 16384 f] 0 0 := by
        intro a ha
        cases ho : exS cv ov s k with
        | none =>
          refine zv_go C okX9_extreme [115] 20 ?_
          refine ⟨fun _ => ?_, fun h => absurd rfl h⟩
          exact fin none ho a true ha rfl
        | some j =>
          have hj : j < k := exS_lt k j ho
          have ej : (nI j).toNatClampNeg = j := nI_clamp (by omega)
          have jin : vp_in (nI j) 16384 := vp_in_nI (by omega) (by decide)
          have hcj := hc j (by omega)
          refine zv_go C okX9_extreme [115] 60 ?_
          refine ⟨fun h => ?_, fun _ => ⟨fun h => ⟨rfl, ⟨rfl, rfl⟩, jin, rfl, ⟨rfl, rfl⟩, kin, fun h2 => ?_, fun h2 => ?_⟩, fun h => ⟨rfl, ⟨rfl, rfl⟩, kin, rfl, ⟨rfl, rfl⟩, jin, fun h2 => ?_, fun h2 => ?_⟩⟩⟩
          · have h : nI j = -1 := h
            exact absurd h (fun q => absurd (show ¬ (-1 : Int32) < 0 from q ▸ nI_nlt (b := 0) (Nat.zero_le _) (by omega)) (by decide))
          · rw [bI_0] at h
            have h2 : ¬ f (nI j).toNatClampNeg &&& (f (nI k).toNatClampNeg ^^^ (-1)) = 0 := h2
            rw [ek, ej, hf k hk, hf j (by omega), nb_n0 hcj] at h2
            exact fin (some j) ho a false ha (by rw [exB_0 h]; exact (decide_eq_false h2).symm)
          · rw [bI_0] at h
            have h2 : f (nI j).toNatClampNeg &&& (f (nI k).toNatClampNeg ^^^ (-1)) = 0 := h2
            rw [ek, ej, hf k hk, hf j (by omega), nb_n0 hcj] at h2
            exact fin (some j) ho a true ha (by rw [exB_0 h]; exact (decide_eq_true h2).symm)
          · rw [bI_1] at h
            have h2 : ¬ f (nI k).toNatClampNeg &&& (f (nI j).toNatClampNeg ^^^ (-1)) = 0 := h2
            rw [ek, ej, hf k hk, hf j (by omega), nb_n0 hck] at h2
            exact fin (some j) ho a false ha (by rw [exB_1 h]; exact (decide_eq_false h2).symm)
          · rw [bI_1] at h
            have h2 : f (nI k).toNatClampNeg &&& (f (nI j).toNatClampNeg ^^^ (-1)) = 0 := h2
            rw [ek, ej, hf k hk, hf j (by omega), nb_n0 hck] at h2
            exact fin (some j) ho a true ha (by rw [exB_1 h]; exact (decide_eq_true h2).symm)
      refine zv_go C okX9_extreme [58] 40 ?_
      refine ⟨rfl, fun h => absurd h (nI_ge (by omega) (by omega)), fun _ => ⟨fun h => ⟨rfl, ⟨rfl, rfl⟩, kin, fun h2 => ?_, fun h2 => ?_⟩, fun h => ⟨rfl, ⟨rfl, rfl⟩, kin, fun h2 => ?_, fun h2 => ?_⟩⟩⟩
      · rw [bI_0] at h
        have h2 : ¬ f (nI k).toNatClampNeg &&& (nI s ^^^ (-1)) = 0 := h2
        rw [ek, hf k hk, nb_n0 hck] at h2
        exact mid false (by unfold exF; rw [if_neg (by rw [h]; simp)]; exact (decide_eq_false h2).symm)
      · rw [bI_0] at h
        have h2 : f (nI k).toNatClampNeg &&& (nI s ^^^ (-1)) = 0 := h2
        rw [ek, hf k hk, nb_n0 hck] at h2
        exact mid true (by unfold exF; rw [if_neg (by rw [h]; simp)]; exact (decide_eq_true h2).symm)
      · rw [bI_1] at h
        have h2 : ¬ f (nI k).toNatClampNeg &&& nI s = nI s := h2
        rw [ek, hf k hk, nb_and, nb_inj (Nat.lt_of_le_of_lt Nat.and_le_left (by omega)) (by omega)] at h2
        exact mid false (by unfold exF; rw [if_pos h]; exact (decide_eq_false h2).symm)
      · rw [bI_1] at h
        have h2 : f (nI k).toNatClampNeg &&& nI s = nI s := h2
        rw [ek, hf k hk, nb_and, nb_inj (Nat.lt_of_le_of_lt Nat.and_le_left (by omega)) (by omega)] at h2
        exact mid true (by unfold exF; rw [if_pos h]; exact (decide_eq_true h2).symm)
  refine zv_go C okX9_extreme [5] 20 ?_
  exact loop 0 (Nat.zero_le _)
set_option maxHeartbeats 4000000 in
set_option maxRecDepth 100000 in
theorem m_least_no (Lf : Nat → Bool) (f0 : Nat → Int32) (s : Int32) (h : s < 0 ∨ nI (2 ^ n - 1) < s) (hn : n ≤ 14) : zD K yX9_least cX9_least 2 (some .int) (zq 3 0 0 120) [.ref (A 0), .int s] [mO A n cc, mZ K (A 1) Lf, mI K (A 4) 16384 f0] (some (.int (-1))) [mO A n (nI (mcN Lf n)), mZ K (A 1) Lf, mI K (A 4) 16384 (fcA Lf n f0 (2 ^ n))] := by
  refine zo (by decide) (Nat.le_of_ble_eq_true rfl) fun x C R _ => ?_
  have hp : 0 < 2 ^ n := Nat.two_pow_pos n
  have hp14 := pow_le14 hn
  have hNle : mcN Lf n ≤ 2 ^ n := fcN_le Lf n (2 ^ n)
  have hfa : ∀ j, j < mcN Lf n → fcA Lf n f0 (2 ^ n) j = nI (mcV Lf n j) := fun j hj => if_pos hj
  have hcl : ∀ j, j < mcN Lf n → mcV Lf n j < 2 ^ 14 := fun j hj => Nat.lt_of_lt_of_le (fcV_lt Lf n (2 ^ n) j hj) (by omega)
  refine zv_go C okX9_least [] 20 ?_
  refine zv_callV C (m_findCuts K A n cc Lf f0 hn) (zw_V inX9_findCuts kX9_87 ⟨by decide, by decide⟩) [0, 1, 2] 0 rfl rfl rfl rfl (fun _ => Nat.le_refl _) rfl rfl (by decide) dzX9_least_1 (by decide) (by decide) rfl (fun _ _ => ?_)
  refine zv_to C rfl rfl (ws' := [mO A n (nI (mcN Lf n)), mZ K (A 1) Lf, mI K (A 4) 16384 (fcA Lf n f0 (2 ^ n))]) rfl ?_
  refine zv_go C okX9_least [] 20 ?_
  refine ⟨fun h1 => ?_, fun h1 => ?_⟩
  · exact zr R () [0, 1, 2] (some (.int (-1))) _ rfl rfl trivial rfl rfl (Nat.zero_le _) (Nat.zero_le _) dzX9_least_26
  refine zv_callV C (m_all K A n (nI (mcN Lf n)) hn) (zw_V inX9_all kX9_61 ⟨by decide, by decide⟩) [0] 0 rfl rfl rfl rfl (fun _ => Nat.le_refl _) (rest := [.int s]) rfl rfl (Nat.le_of_ble_eq_true rfl) dzX9_least_10 (by decide) (by decide) rfl (fun _ _ => ?_)
  refine zv_to C rfl rfl (ws' := [mO A n (nI (mcN Lf n)), mZ K (A 1) Lf, mI K (A 4) 16384 (fcA Lf n f0 (2 ^ n))]) rfl ?_
  refine zv_go C okX9_least [] 20 ?_
  refine ⟨fun h2 => ?_, fun h2 => ?_⟩
  · exact absurd h (fun q => q.elim h1 (fun z => absurd h2 (Int32.not_le.mpr z)))
  · exact zr R () [0, 1, 2] (some (.int (-1))) _ rfl rfl trivial rfl rfl (Nat.zero_le _) (Nat.zero_le _) dzX9_least_26
set_option maxHeartbeats 4000000 in
set_option maxRecDepth 100000 in
theorem m_least (Lf : Nat → Bool) (f0 : Nat → Int32) {s : Nat} (hs : s < 2 ^ n) (hn : n ≤ 14) : zD K yX9_least cX9_least 2 (some .int) (zq 3 0 0 120) [.ref (A 0), .int (nI s)] [mO A n cc, mZ K (A 1) Lf, mI K (A 4) 16384 f0] (some (.int (oI (exS (mcV Lf n) true s (mcN Lf n))))) [mO A n (nI (mcN Lf n)), mZ K (A 1) Lf, mI K (A 4) 16384 (fcA Lf n f0 (2 ^ n))] := by
  refine zo (by decide) (Nat.le_of_ble_eq_true rfl) fun x C R _ => ?_
  have hp : 0 < 2 ^ n := Nat.two_pow_pos n
  have hp14 := pow_le14 hn
  have hNle : mcN Lf n ≤ 2 ^ n := fcN_le Lf n (2 ^ n)
  have hfa : ∀ j, j < mcN Lf n → fcA Lf n f0 (2 ^ n) j = nI (mcV Lf n j) := fun j hj => if_pos hj
  have hcl : ∀ j, j < mcN Lf n → mcV Lf n j < 2 ^ 14 := fun j hj => Nat.lt_of_lt_of_le (fcV_lt Lf n (2 ^ n) j hj) (by omega)
  refine zv_go C okX9_least [] 20 ?_
  refine zv_callV C (m_findCuts K A n cc Lf f0 hn) (zw_V inX9_findCuts kX9_87 ⟨by decide, by decide⟩) [0, 1, 2] 0 rfl rfl rfl rfl (fun _ => Nat.le_refl _) rfl rfl (by decide) dzX9_least_1 (by decide) (by decide) rfl (fun _ _ => ?_)
  refine zv_to C rfl rfl (ws' := [mO A n (nI (mcN Lf n)), mZ K (A 1) Lf, mI K (A 4) 16384 (fcA Lf n f0 (2 ^ n))]) rfl ?_
  refine zv_go C okX9_least [] 20 ?_
  refine ⟨fun h1 => ?_, fun h1 => ?_⟩
  · exact absurd h1 (nI_nlt (b := 0) (Nat.zero_le _) (by omega))
  refine zv_callV C (m_all K A n (nI (mcN Lf n)) hn) (zw_V inX9_all kX9_61 ⟨by decide, by decide⟩) [0] 0 rfl rfl rfl rfl (fun _ => Nat.le_refl _) (rest := [.int (nI s)]) rfl rfl (Nat.le_of_ble_eq_true rfl) dzX9_least_10 (by decide) (by decide) rfl (fun _ _ => ?_)
  refine zv_to C rfl rfl (ws' := [mO A n (nI (mcN Lf n)), mZ K (A 1) Lf, mI K (A 4) 16384 (fcA Lf n f0 (2 ^ n))]) rfl ?_
  refine zv_go C okX9_least [] 20 ?_
  refine ⟨fun h2 => ?_, fun h2 => ?_⟩
  rotate_left
  · exact absurd (nI_le (by omega) (by omega)) h2
  refine zv_callV C (m_extreme K A n (mcV Lf n) (mcN Lf n) (fcA Lf n f0 (2 ^ n)) true (s := s) (by omega) (by omega) hfa hcl) (zw_V inX9_extreme kX9_112 ⟨by decide, by decide⟩) [0, 2] 0 rfl rfl rfl rfl (fun _ => Nat.le_refl _) rfl rfl (by decide) dzX9_least_23 (by decide) (by decide) rfl (fun _ _ => ?_)
  refine zv_to C rfl rfl (ws' := [mO A n (nI (mcN Lf n)), mZ K (A 1) Lf, mI K (A 4) 16384 (fcA Lf n f0 (2 ^ n))]) rfl ?_
  exact zr R () [0, 1, 2] (some (.int _)) _ rfl rfl trivial rfl rfl (Nat.zero_le _) (Nat.zero_le _) dzX9_least_26
set_option maxHeartbeats 4000000 in
set_option maxRecDepth 100000 in
theorem m_joined_no (Lf : Nat → Bool) (f0 : Nat → Int32) (k l me : Int32) (h : hasb (mcN Lf n) k = false ∨ hasb (mcN Lf n) l = false) (hn : n ≤ 14) : zD K yX9_joined cX9_joined 4 (some .int) (zq 3 0 0 120) [.ref (A 0), .int k, .int l, .int me] [mO A n cc, mZ K (A 1) Lf, mI K (A 4) 16384 f0] (some (.int (-1))) [mO A n (nI (mcN Lf n)), mZ K (A 1) Lf, mI K (A 4) 16384 (fcA Lf n f0 (2 ^ n))] := by
  refine zo (by decide) (Nat.le_of_ble_eq_true rfl) fun x C R _ => ?_
  have hp : 0 < 2 ^ n := Nat.two_pow_pos n
  have hp14 := pow_le14 hn
  have hNle : mcN Lf n ≤ 2 ^ n := fcN_le Lf n (2 ^ n)
  have hfa : ∀ j, j < mcN Lf n → fcA Lf n f0 (2 ^ n) j = nI (mcV Lf n j) := fun j hj => if_pos hj
  have hcl : ∀ j, j < mcN Lf n → mcV Lf n j < 2 ^ 14 := fun j hj => Nat.lt_of_lt_of_le (fcV_lt Lf n (2 ^ n) j hj) (by omega)
  refine zv_go C okX9_joined [] 20 ?_
  refine zv_callV C (m_findCuts K A n cc Lf f0 hn) (zw_V inX9_findCuts kX9_87 ⟨by decide, by decide⟩) [0, 1, 2] 0 rfl rfl rfl rfl (fun _ => Nat.le_refl _) rfl rfl (by decide) dzX9_joined_1 (by decide) (by decide) rfl (fun _ _ => ?_)
  refine zv_to C rfl rfl (ws' := [mO A n (nI (mcN Lf n)), mZ K (A 1) Lf, mI K (A 4) 16384 (fcA Lf n f0 (2 ^ n))]) rfl ?_
  refine zv_go C okX9_joined [30] 20 ?_
  refine ⟨fun h1 => ?_, fun h1 => ⟨rfl, fun h2 => ?_, fun h2 => ⟨fun h3 => ?_, fun h3 => ⟨rfl, fun h4 => ?_, fun h4 => ?_⟩⟩⟩⟩
  · exact zr R () [0, 1, 2] (some (.int (-1))) _ rfl rfl trivial rfl rfl (Nat.zero_le _) (Nat.zero_le _) dzX9_joined_29
  · exact zr R () [0, 1, 2] (some (.int (-1))) _ rfl rfl trivial rfl rfl (Nat.zero_le _) (Nat.zero_le _) dzX9_joined_29
  · exact zr R () [0, 1, 2] (some (.int (-1))) _ rfl rfl trivial rfl rfl (Nat.zero_le _) (Nat.zero_le _) dzX9_joined_29
  · unfold hasb at h
    rw [decide_eq_false_iff_not, decide_eq_false_iff_not] at h
    exact absurd h (fun q => q.elim (fun z => z ⟨Int32.not_lt.mp h1, Int32.not_le.mp h2⟩) (fun z => z ⟨Int32.not_lt.mp h3, h4⟩))
  · exact zr R () [0, 1, 2] (some (.int (-1))) _ rfl rfl trivial rfl rfl (Nat.zero_le _) (Nat.zero_le _) dzX9_joined_29
set_option maxHeartbeats 4000000 in
set_option maxRecDepth 100000 in
theorem m_joined (Lf : Nat → Bool) (f0 : Nat → Int32) {i j : Nat} (me : Int32) (hi : i < mcN Lf n) (hj : j < mcN Lf n) (hn : n ≤ 14) : zD K yX9_joined cX9_joined 4 (some .int) (zq 3 0 0 120) [.ref (A 0), .int (nI i), .int (nI j), .int me] [mO A n cc, mZ K (A 1) Lf, mI K (A 4) 16384 f0] (some (.int (oI (if me = 0 then exS (mcV Lf n) true (mcV Lf n i ||| mcV Lf n j) (mcN Lf n) else exS (mcV Lf n) false (mcV Lf n i &&& mcV Lf n j) (mcN Lf n))))) [mO A n (nI (mcN Lf n)), mZ K (A 1) Lf, mI K (A 4) 16384 (fcA Lf n f0 (2 ^ n))] := by
  refine zo (by decide) (Nat.le_of_ble_eq_true rfl) fun x C R _ => ?_
  have hp : 0 < 2 ^ n := Nat.two_pow_pos n
  have hp14 := pow_le14 hn
  have hNle : mcN Lf n ≤ 2 ^ n := fcN_le Lf n (2 ^ n)
  have hfa : ∀ j, j < mcN Lf n → fcA Lf n f0 (2 ^ n) j = nI (mcV Lf n j) := fun j hj => if_pos hj
  have hcl : ∀ j, j < mcN Lf n → mcV Lf n j < 2 ^ 14 := fun j hj => Nat.lt_of_lt_of_le (fcV_lt Lf n (2 ^ n) j hj) (by omega)
  have ei : (nI i).toNatClampNeg = i := nI_clamp (by omega)
  have ej : (nI j).toNatClampNeg = j := nI_clamp (by omega)
  have iin : vp_in (nI i) 16384 := vp_in_nI (by omega) (by decide)
  have jin : vp_in (nI j) 16384 := vp_in_nI (by omega) (by decide)
  refine zv_go C okX9_joined [] 20 ?_
  refine zv_callV C (m_findCuts K A n cc Lf f0 hn) (zw_V inX9_findCuts kX9_87 ⟨by decide, by decide⟩) [0, 1, 2] 0 rfl rfl rfl rfl (fun _ => Nat.le_refl _) rfl rfl (by decide) dzX9_joined_1 (by decide) (by decide) rfl (fun _ _ => ?_)
  refine zv_to C rfl rfl (ws' := [mO A n (nI (mcN Lf n)), mZ K (A 1) Lf, mI K (A 4) 16384 (fcA Lf n f0 (2 ^ n))]) rfl ?_
  refine zv_go C okX9_joined [30] 20 ?_
  refine ⟨fun h1 => ?_, fun h1 => ⟨rfl, fun h2 => ?_, fun h2 => ⟨fun h3 => ?_, fun h3 => ⟨rfl, fun h4 => ?_, fun h4 => ?_⟩⟩⟩⟩
  · exact absurd h1 (nI_nlt (b := 0) (Nat.zero_le _) (by omega))
  · exact absurd h2 (nI_ge hi (by omega))
  · exact absurd h3 (nI_nlt (b := 0) (Nat.zero_le _) (by omega))
  rotate_left
  · exact absurd (nI_lt hj (by omega)) h4
  refine zv_go C okX9_joined [] 30 ?_
  refine ⟨fun h => ⟨rfl, ⟨rfl, rfl⟩, iin, rfl, ⟨rfl, rfl⟩, jin, ?_⟩, fun h => ⟨rfl, ⟨rfl, rfl⟩, iin, rfl, ⟨rfl, rfl⟩, jin, ?_⟩⟩
  · refine zv_to C rfl (st' := [.int (bI true), .int (nI (mcV Lf n i ||| mcV Lf n j)), .ref (A 0)]) ?_ rfl ?_
    · show [Value.int 1, .int (fcA Lf n f0 (2 ^ n) (nI i).toNatClampNeg ||| fcA Lf n f0 (2 ^ n) (nI j).toNatClampNeg), .ref (A 0)] = _
      rw [ei, ej, hfa i hi, hfa j hj, nb_or]
      rfl
    refine zv_callV C (m_extreme K A n (mcV Lf n) (mcN Lf n) (fcA Lf n f0 (2 ^ n)) true (s := (mcV Lf n i ||| mcV Lf n j)) (by omega) (nb_lt_or (hcl i hi) (hcl j hj)) hfa hcl) (zw_V inX9_extreme kX9_112 ⟨by decide, by decide⟩) [0, 2] 0 rfl rfl rfl rfl (fun _ => Nat.le_refl _) rfl rfl (by decide) dzX9_joined_70 (by decide) (by decide) rfl (fun _ _ => ?_)
    refine zv_to C rfl rfl (ws' := [mO A n (nI (mcN Lf n)), mZ K (A 1) Lf, mI K (A 4) 16384 (fcA Lf n f0 (2 ^ n))]) rfl ?_
    refine zv_go C okX9_joined [] 3 ?_
    exact zr R () [0, 1, 2] (some (.int _)) _ (by rw [if_pos h] <;> rfl) rfl trivial rfl rfl (Nat.zero_le _) (Nat.zero_le _) dzX9_joined_73
  · refine zv_to C rfl (st' := [.int (bI false), .int (nI (mcV Lf n i &&& mcV Lf n j)), .ref (A 0)]) ?_ rfl ?_
    · show [Value.int 0, .int (fcA Lf n f0 (2 ^ n) (nI i).toNatClampNeg &&& fcA Lf n f0 (2 ^ n) (nI j).toNatClampNeg), .ref (A 0)] = _
      rw [ei, ej, hfa i hi, hfa j hj, nb_and]
      rfl
    refine zv_callV C (m_extreme K A n (mcV Lf n) (mcN Lf n) (fcA Lf n f0 (2 ^ n)) false (s := (mcV Lf n i &&& mcV Lf n j)) (by omega) (Nat.lt_of_le_of_lt Nat.and_le_left (hcl i hi)) hfa hcl) (zw_V inX9_extreme kX9_112 ⟨by decide, by decide⟩) [0, 2] 0 rfl rfl rfl rfl (fun _ => Nat.le_refl _) rfl rfl (by decide) dzX9_joined_49 (by decide) (by decide) rfl (fun _ _ => ?_)
    refine zv_to C rfl rfl (ws' := [mO A n (nI (mcN Lf n)), mZ K (A 1) Lf, mI K (A 4) 16384 (fcA Lf n f0 (2 ^ n))]) rfl ?_
    refine zv_go C okX9_joined [] 3 ?_
    exact zr R () [0, 1, 2] (some (.int _)) _ (by rw [if_neg h] <;> rfl) rfl trivial rfl rfl (Nat.zero_le _) (Nat.zero_le _) dzX9_joined_73
end MG
end
section
/-! THE MODEL: muOfCuts, mu -/
theorem u3_2 (f : Nat → Int32) (k : Nat) (x y : Int32) : upd (upd f k x) k y = upd f k y := by
  funext j
  by_cases h : j = k
  · rw [h, pk_us, pk_us]
  · rw [pk_un h, pk_un h, pk_un h]
def mcT (cv : Nat → Nat) (i y x : Nat) : Bool := decide (ndf (cv i) (cv y) = 0) && decide (ndf (cv y) (cv x) = 0)
def mcY (cv : Nat → Nat) (i x : Nat) (M : Nat → Int32) : Nat → Int32
  | 0 => if x = i then 1 else 0
  | m + 1 => mcY cv i x M m - (if mcT cv i (i + m) x = true then M (i + m) else 0)
def mcX (cv : Nat → Nat) (i l : Nat) (μ : Nat → Int32) : Nat → (Nat → Int32)
  | 0 => μ
  | d + 1 => upd (mcX cv i l μ d) (i + d) (if mcT cv i (i + d) l = true then mcY cv i (i + d) (mcX cv i l μ d) d else (if i + d = i then 1 else 0))
def quB (Lf : Nat → Bool) (a x y : Nat) : Bool := (decide (y = a) || Lf (16 * a + y)) && Lf (16 * y + x)
def quU (Lf : Nat → Bool) (a x : Nat) : Nat → Nat
  | 0 => 0
  | y + 1 => quU Lf a x y + (quB Lf a x y).toNat
def quS (Lf : Nat → Bool) (a x : Nat) (M : Nat → Int32) : Nat → Int32
  | 0 => if x = a then -1 else 0
  | y + 1 => quS Lf a x M y + (if quB Lf a x y = true then M y else 0)
def quX (Lf : Nat → Bool) (n a h : Nat) (M : Nat → Int32) : Nat → (Nat → Int32)
  | 0 => M
  | x + 1 => if ((decide (x = a) || Lf (16 * a + x)) && decide (quU Lf a x n = h)) = true then upd (quX Lf n a h M x) x (-(quS Lf a x (quX Lf n a h M x) n)) else quX Lf n a h M x
def quH (Lf : Nat → Bool) (n a : Nat) (μ : Nat → Int32) : Nat → (Nat → Int32)
  | 0 => μ
  | h + 1 => quX Lf n a h (quH Lf n a μ h) n
theorem quU_le (Lf : Nat → Bool) (a x : Nat) : ∀ k, quU Lf a x k ≤ k
  | 0 => Nat.le_refl _
  | k + 1 => by
    have h := quU_le Lf a x k
    unfold quU
    cases quB Lf a x k <;> simp <;> omega
section MH
variable (K : zK) (A : Nat → Nat) (n : Nat) (cc : Int32)
set_option maxHeartbeats 4000000 in
set_option maxRecDepth 100000 in
theorem m_muOfCuts_no (Lf : Nat → Bool) (f0 μ0 : Nat → Int32) (k l : Int32) (h : hasb (mcN Lf n) k = false ∨ hasb (mcN Lf n) l = false) (hn : n ≤ 14) : zD K yX9_muOfCuts cX9_muOfCuts 7 (some .int) (zq 3 0 0 120) [.ref (A 0), .int k, .int l] [mO A n cc, mZ K (A 1) Lf, mI K (A 4) 16384 f0, mI K (A 5) 16384 μ0] (some (.int 0)) [mO A n (nI (mcN Lf n)), mZ K (A 1) Lf, mI K (A 4) 16384 (fcA Lf n f0 (2 ^ n)), mI K (A 5) 16384 μ0] := by
  refine zo (by decide) (Nat.le_of_ble_eq_true rfl) fun x C R _ => ?_
  have hp : 0 < 2 ^ n := Nat.two_pow_pos n
  have hp14 := pow_le14 hn
  have hNle : mcN Lf n ≤ 2 ^ n := fcN_le Lf n (2 ^ n)
  have hfa : ∀ j, j < mcN Lf n → fcA Lf n f0 (2 ^ n) j = nI (mcV Lf n j) := fun j hj => if_pos hj
  have hcl : ∀ j, j < mcN Lf n → mcV Lf n j < 2 ^ 14 := fun j hj => Nat.lt_of_lt_of_le (fcV_lt Lf n (2 ^ n) j hj) (by omega)
  refine zv_go C okX9_muOfCuts [] 20 ?_
  refine zv_callV C (m_findCuts K A n cc Lf f0 hn) (zw_V inX9_findCuts kX9_87 ⟨by decide, by decide⟩) [0, 1, 2] 0 rfl rfl rfl rfl (fun _ => Nat.le_refl _) rfl rfl (by decide) dzX9_muOfCuts_1 (by decide) (by decide) rfl (fun _ _ => ?_)
  refine zv_to C rfl rfl (ws' := [mO A n (nI (mcN Lf n)), mZ K (A 1) Lf, mI K (A 4) 16384 (fcA Lf n f0 (2 ^ n)), mI K (A 5) 16384 μ0]) rfl ?_
  refine zv_go C okX9_muOfCuts [28] 20 ?_
  refine ⟨fun h1 => ?_, fun h1 => ⟨rfl, fun h2 => ?_, fun h2 => ⟨fun h3 => ?_, fun h3 => ⟨rfl, fun h4 => ?_, fun h4 => ?_⟩⟩⟩⟩
  · exact zr R () [0, 1, 2, 3] (some (.int 0)) _ rfl rfl trivial rfl rfl (Nat.zero_le _) (Nat.zero_le _) dzX9_muOfCuts_47
  · exact zr R () [0, 1, 2, 3] (some (.int 0)) _ rfl rfl trivial rfl rfl (Nat.zero_le _) (Nat.zero_le _) dzX9_muOfCuts_47
  · exact zr R () [0, 1, 2, 3] (some (.int 0)) _ rfl rfl trivial rfl rfl (Nat.zero_le _) (Nat.zero_le _) dzX9_muOfCuts_47
  · exact zr R () [0, 1, 2, 3] (some (.int 0)) _ rfl rfl trivial rfl rfl (Nat.zero_le _) (Nat.zero_le _) dzX9_muOfCuts_47
  · unfold hasb at h
    rw [decide_eq_false_iff_not, decide_eq_false_iff_not] at h
    exact absurd h (fun q => q.elim (fun z => z ⟨Int32.not_lt.mp h1, Int32.not_le.mp h2⟩) (fun z => z ⟨Int32.not_lt.mp h3, Int32.not_le.mp h4⟩))
set_option maxHeartbeats 4000000 in
set_option maxRecDepth 100000 in
theorem m_muOfCuts_0 (Lf : Nat → Bool) (f0 μ0 : Nat → Int32) {i j : Nat} (hi : i < mcN Lf n) (hj : j < mcN Lf n) (hd : ndf (mcV Lf n i) (mcV Lf n j) ≠ 0) (hn : n ≤ 14) : zD K yX9_muOfCuts cX9_muOfCuts 7 (some .int) (zq 3 0 0 120) [.ref (A 0), .int (nI i), .int (nI j)] [mO A n cc, mZ K (A 1) Lf, mI K (A 4) 16384 f0, mI K (A 5) 16384 μ0] (some (.int 0)) [mO A n (nI (mcN Lf n)), mZ K (A 1) Lf, mI K (A 4) 16384 (fcA Lf n f0 (2 ^ n)), mI K (A 5) 16384 μ0] := by
  refine zo (by decide) (Nat.le_of_ble_eq_true rfl) fun x C R _ => ?_
  have hp : 0 < 2 ^ n := Nat.two_pow_pos n
  have hp14 := pow_le14 hn
  have hNle : mcN Lf n ≤ 2 ^ n := fcN_le Lf n (2 ^ n)
  have hfa : ∀ j, j < mcN Lf n → fcA Lf n f0 (2 ^ n) j = nI (mcV Lf n j) := fun j hj => if_pos hj
  have hcl : ∀ j, j < mcN Lf n → mcV Lf n j < 2 ^ 14 := fun j hj => Nat.lt_of_lt_of_le (fcV_lt Lf n (2 ^ n) j hj) (by omega)
  have hin : ∀ j, j < mcN Lf n → vp_in (nI j) 16384 := fun j hj => vp_in_nI (by omega) (by decide)
  have sub : ∀ a b, a < mcN Lf n → b < mcN Lf n → (fcA Lf n f0 (2 ^ n) (nI a).toNatClampNeg &&& (fcA Lf n f0 (2 ^ n) (nI b).toNatClampNeg ^^^ (-1)) = 0 ↔ ndf (mcV Lf n a) (mcV Lf n b) = 0) := by
    intro a b ha hb
    rw [nI_clamp (by omega), nI_clamp (by omega), hfa a ha, hfa b hb, nb_n0 (hcl a ha)]
  refine zv_go C okX9_muOfCuts [] 20 ?_
  refine zv_callV C (m_findCuts K A n cc Lf f0 hn) (zw_V inX9_findCuts kX9_87 ⟨by decide, by decide⟩) [0, 1, 2] 0 rfl rfl rfl rfl (fun _ => Nat.le_refl _) rfl rfl (by decide) dzX9_muOfCuts_1 (by decide) (by decide) rfl (fun _ _ => ?_)
  refine zv_to C rfl rfl (ws' := [mO A n (nI (mcN Lf n)), mZ K (A 1) Lf, mI K (A 4) 16384 (fcA Lf n f0 (2 ^ n)), mI K (A 5) 16384 μ0]) rfl ?_
  refine zv_go C okX9_muOfCuts [50] 40 ?_
  refine ⟨fun h1 => absurd h1 (nI_nlt (b := 0) (Nat.zero_le _) (by omega)), fun h1 => ⟨rfl, fun h2 => absurd h2 (nI_ge hi (by omega)), fun h2 => ⟨fun h3 => absurd h3 (nI_nlt (b := 0) (Nat.zero_le _) (by omega)), fun h3 => ⟨rfl, fun h4 => absurd h4 (nI_ge hj (by omega)), fun h4 => ⟨rfl, ⟨rfl, rfl⟩, hin i hi, rfl, ⟨rfl, rfl⟩, hin j hj, fun h5 => ?_, fun h5 => ?_⟩⟩⟩⟩⟩
  · exact absurd ((sub i j hi hj).mp h5) hd
  · exact zr R () [0, 1, 2, 3] (some (.int 0)) _ rfl rfl trivial rfl rfl (Nat.zero_le _) (Nat.zero_le _) dzX9_muOfCuts_47
set_option maxHeartbeats 4000000 in
set_option maxRecDepth 100000 in
theorem m_muOfCuts (Lf : Nat → Bool) (f0 μ0 : Nat → Int32) {i j : Nat} (hi : i < mcN Lf n) (hj : j < mcN Lf n) (hij : i ≤ j) (hd : ndf (mcV Lf n i) (mcV Lf n j) = 0) (hn : n ≤ 14) : zD K yX9_muOfCuts cX9_muOfCuts 7 (some .int) (zq 3 0 0 120) [.ref (A 0), .int (nI i), .int (nI j)] [mO A n cc, mZ K (A 1) Lf, mI K (A 4) 16384 f0, mI K (A 5) 16384 μ0] (some (.int ((mcX (mcV Lf n) i j μ0 (j + 1 - i)) j))) [mO A n (nI (mcN Lf n)), mZ K (A 1) Lf, mI K (A 4) 16384 (fcA Lf n f0 (2 ^ n)), mI K (A 5) 16384 (mcX (mcV Lf n) i j μ0 (j + 1 - i))] := by
  refine zo (by decide) (Nat.le_of_ble_eq_true rfl) fun x C R _ => ?_
  have hp : 0 < 2 ^ n := Nat.two_pow_pos n
  have hp14 := pow_le14 hn
  have hNle : mcN Lf n ≤ 2 ^ n := fcN_le Lf n (2 ^ n)
  have hfa : ∀ j, j < mcN Lf n → fcA Lf n f0 (2 ^ n) j = nI (mcV Lf n j) := fun j hj => if_pos hj
  have hcl : ∀ j, j < mcN Lf n → mcV Lf n j < 2 ^ 14 := fun j hj => Nat.lt_of_lt_of_le (fcV_lt Lf n (2 ^ n) j hj) (by omega)
  have hin : ∀ j, j < mcN Lf n → vp_in (nI j) 16384 := fun j hj => vp_in_nI (by omega) (by decide)
  have sub : ∀ a b, a < mcN Lf n → b < mcN Lf n → (fcA Lf n f0 (2 ^ n) (nI a).toNatClampNeg &&& (fcA Lf n f0 (2 ^ n) (nI b).toNatClampNeg ^^^ (-1)) = 0 ↔ ndf (mcV Lf n a) (mcV Lf n b) = 0) := by
    intro a b ha hb
    rw [nI_clamp (by omega), nI_clamp (by omega), hfa a ha, hfa b hb, nb_n0 (hcl a ha)]
  have inner : ∀ d, i + d ≤ j → mcT (mcV Lf n) i (i + d) j = true → (∀ lv2 : zv_L, (lv2 = [] ∨ ∃ z w, lv2 = [(5, .int z), (6, .int w)] ∨ lv2 = [(5, .int z)]) → zv_V x (gz K (zq 3 0 0 120) 7 cX9_muOfCuts yX9_muOfCuts.cls) 204 ([(0, .ref (A 0)), (1, .int (nI i)), (2, .int (nI j)), (3, .int (nI (i + d))), (4, .int (bI true))] ++ lv2) [] [mO A n (nI (mcN Lf n)), mZ K (A 1) Lf, mI K (A 4) 16384 (fcA Lf n f0 (2 ^ n)), mI K (A 5) 16384 (upd (mcX (mcV Lf n) i j μ0 d) (i + d) (mcY (mcV Lf n) i (i + d) (mcX (mcV Lf n) i j μ0 d) d))] 0 0) → ∀ y, y ≤ d → zv_V x (gz K (zq 3 0 0 120) 7 cX9_muOfCuts yX9_muOfCuts.cls) 117 [(0, .ref (A 0)), (1, .int (nI i)), (2, .int (nI j)), (3, .int (nI (i + d))), (4, .int (bI true)), (5, .int (nI (i + y)))] [] [mO A n (nI (mcN Lf n)), mZ K (A 1) Lf, mI K (A 4) 16384 (fcA Lf n f0 (2 ^ n)), mI K (A 5) 16384 (upd (mcX (mcV Lf n) i j μ0 d) (i + d) (mcY (mcV Lf n) i (i + d) (mcX (mcV Lf n) i j μ0 d) y))] 0 0 := by
    intro d hdj hbt hend
    refine zl d ?_ fun y hy ih => ?_
    · refine zv_go C okX9_muOfCuts [204] 20 ?_
      refine ⟨fun _ => ?_, fun h => absurd (nI_le (Nat.le_refl _) (by omega)) h⟩
      exact hend [_] (Or.inr ⟨_, 0, Or.inr rfl⟩)
    · have ex : (nI (i + d)).toNatClampNeg = i + d := nI_clamp (by omega)
      have ey : (nI (i + y)).toNatClampNeg = i + y := nI_clamp (by omega)
      have join : ∀ b, b = mcT (mcV Lf n) i (i + y) (i + d) → zv_V x (gz K (zq 3 0 0 120) 7 cX9_muOfCuts yX9_muOfCuts.cls) 171 [(0, .ref (A 0)), (1, .int (nI i)), (2, .int (nI j)), (3, .int (nI (i + d))), (4, .int (bI true)), (5, .int (nI (i + y)))] [.int (bI b)] [mO A n (nI (mcN Lf n)), mZ K (A 1) Lf, mI K (A 4) 16384 (fcA Lf n f0 (2 ^ n)), mI K (A 5) 16384 (upd (mcX (mcV Lf n) i j μ0 d) (i + d) (mcY (mcV Lf n) i (i + d) (mcX (mcV Lf n) i j μ0 d) y))] 0 0 := by
        intro b hb
        refine zv_go C okX9_muOfCuts [117] 40 ?_
        refine ⟨rfl, ⟨rfl, rfl⟩, hin _ (by omega), fun h => ⟨⟨rfl, rfl⟩, hin _ (by omega), ?_⟩, fun h => ⟨rfl, ⟨rfl, rfl⟩, hin _ (by omega), ⟨rfl, rfl⟩, hin _ (by omega), ?_⟩⟩
        · rw [bI_0] at h
          refine zv_drop C [0, 1, 2, 3, 4, 5] (lv' := [(0, .ref (A 0)), (1, .int (nI i)), (2, .int (nI j)), (3, .int (nI (i + d))), (4, .int (bI true)), (5, .int (nI (i + (y + 1))))]) (by rw [← Nat.add_assoc, ← nI_1 (i + y)] <;> rfl) ?_
          refine zv_to C rfl rfl (ws' := [mO A n (nI (mcN Lf n)), mZ K (A 1) Lf, mI K (A 4) 16384 (fcA Lf n f0 (2 ^ n)), mI K (A 5) 16384 (upd (mcX (mcV Lf n) i j μ0 d) (i + d) (mcY (mcV Lf n) i (i + d) (mcX (mcV Lf n) i j μ0 d) (y + 1)))]) ?_ ih
          show [_, _, _, (A 5, Sum.inl (cI K, 16384, Sum.inl (upd (upd (mcX (mcV Lf n) i j μ0 d) (i + d) (mcY (mcV Lf n) i (i + d) (mcX (mcV Lf n) i j μ0 d) y)) (nI (i + d)).toNatClampNeg (upd (mcX (mcV Lf n) i j μ0 d) (i + d) (mcY (mcV Lf n) i (i + d) (mcX (mcV Lf n) i j μ0 d) y) (nI (i + d)).toNatClampNeg - 0))))] = _
          rw [ex, u3_2, pk_us, mcY, ← hb, h]
          rfl
        · rw [bI_1] at h
          refine zv_drop C [0, 1, 2, 3, 4, 5] (lv' := [(0, .ref (A 0)), (1, .int (nI i)), (2, .int (nI j)), (3, .int (nI (i + d))), (4, .int (bI true)), (5, .int (nI (i + (y + 1))))]) (by rw [← Nat.add_assoc, ← nI_1 (i + y)] <;> rfl) ?_
          refine zv_to C rfl rfl (ws' := [mO A n (nI (mcN Lf n)), mZ K (A 1) Lf, mI K (A 4) 16384 (fcA Lf n f0 (2 ^ n)), mI K (A 5) 16384 (upd (mcX (mcV Lf n) i j μ0 d) (i + d) (mcY (mcV Lf n) i (i + d) (mcX (mcV Lf n) i j μ0 d) (y + 1)))]) ?_ ih
          show [_, _, _, (A 5, Sum.inl (cI K, 16384, Sum.inl (upd (upd (mcX (mcV Lf n) i j μ0 d) (i + d) (mcY (mcV Lf n) i (i + d) (mcX (mcV Lf n) i j μ0 d) y)) (nI (i + d)).toNatClampNeg (upd (mcX (mcV Lf n) i j μ0 d) (i + d) (mcY (mcV Lf n) i (i + d) (mcX (mcV Lf n) i j μ0 d) y) (nI (i + d)).toNatClampNeg - upd (mcX (mcV Lf n) i j μ0 d) (i + d) (mcY (mcV Lf n) i (i + d) (mcX (mcV Lf n) i j μ0 d) y) (nI (i + y)).toNatClampNeg))))] = _
          rw [ex, ey, u3_2, pk_us, pk_un (by omega), mcY, ← hb, if_pos h]
      refine zv_go C okX9_muOfCuts [171] 40 ?_
      refine ⟨fun h => absurd h (nI_ge (by omega) (by omega)), fun _ => ⟨fun h => absurd h (by decide), fun _ => ⟨rfl, ⟨rfl, rfl⟩, hin _ (by omega), rfl, ⟨rfl, rfl⟩, hin _ (by omega), fun h => ?_, fun h => ⟨rfl, ⟨rfl, rfl⟩, hin _ (by omega), rfl, ⟨rfl, rfl⟩, hin _ (by omega), fun h2 => ?_, fun h2 => ?_⟩⟩⟩⟩
      · have h := fun q => h ((sub i (i + y) (by omega) (by omega)).mpr q)
        exact join false (by unfold mcT; rw [decide_eq_false h]; rfl)
      · have h := (sub i (i + y) (by omega) (by omega)).mp h
        have h2 := fun q => h2 ((sub (i + y) (i + d) (by omega) (by omega)).mpr q)
        exact join false (by unfold mcT; rw [decide_eq_true h, decide_eq_false h2]; rfl)
      · have h := (sub i (i + y) (by omega) (by omega)).mp h
        have h2 := (sub (i + y) (i + d) (by omega) (by omega)).mp h2
        exact join true (by unfold mcT; rw [decide_eq_true h, decide_eq_true h2]; rfl)
  have loop : ∀ d, d ≤ j + 1 - i → zv_V x (gz K (zq 3 0 0 120) 7 cX9_muOfCuts yX9_muOfCuts.cls) 50 [(0, .ref (A 0)), (1, .int (nI i)), (2, .int (nI j)), (3, .int (nI (i + d)))] [] [mO A n (nI (mcN Lf n)), mZ K (A 1) Lf, mI K (A 4) 16384 (fcA Lf n f0 (2 ^ n)), mI K (A 5) 16384 (mcX (mcV Lf n) i j μ0 d)] 0 0 := by
    refine zl (j + 1 - i) ?_ fun d hd2 ih => ?_
    · refine zv_go C okX9_muOfCuts [] 20 ?_
      refine ⟨fun _ => ⟨rfl, ⟨rfl, rfl⟩, hin j hj, ?_⟩, fun h => absurd (nI_lt (by omega) (by omega)) h⟩
      exact zr R () [0, 1, 2, 3] (some (.int _)) _ (by rw [nI_clamp (by omega)]) rfl trivial rfl rfl (Nat.zero_le _) (Nat.zero_le _) dzX9_muOfCuts_216
    · have ex : (nI (i + d)).toNatClampNeg = i + d := nI_clamp (by omega)
      have back : ∀ (bt : Bool) (v : Int32) (lv2 : zv_L), v = (if mcT (mcV Lf n) i (i + d) j = true then (mcY (mcV Lf n) i (i + d) (mcX (mcV Lf n) i j μ0 d) d) else (if i + d = i then 1 else 0)) → (lv2 = [] ∨ ∃ z w, lv2 = [(5, .int z), (6, .int w)] ∨ lv2 = [(5, .int z)]) → zv_V x (gz K (zq 3 0 0 120) 7 cX9_muOfCuts yX9_muOfCuts.cls) 204 ([(0, .ref (A 0)), (1, .int (nI i)), (2, .int (nI j)), (3, .int (nI (i + d))), (4, .int (bI bt))] ++ lv2) [] [mO A n (nI (mcN Lf n)), mZ K (A 1) Lf, mI K (A 4) 16384 (fcA Lf n f0 (2 ^ n)), mI K (A 5) 16384 (upd (mcX (mcV Lf n) i j μ0 d) (i + d) v)] 0 0 := by
        intro bt v lv2 hv hl2
        refine zv_drop C [0, 1, 2, 3] (lv' := [(0, .ref (A 0)), (1, .int (nI i)), (2, .int (nI j)), (3, .int (nI (i + d)))]) (by rcases hl2 with rfl | ⟨z, w, rfl | rfl⟩ <;> rfl) ?_
        refine zv_go C okX9_muOfCuts [50] 20 ?_
        refine zv_to C (lv' := [(0, .ref (A 0)), (1, .int (nI i)), (2, .int (nI j)), (3, .int (nI (i + (d + 1))))]) (by rw [← Nat.add_assoc, ← nI_1 (i + d)] <;> rfl) rfl (ws' := [mO A n (nI (mcN Lf n)), mZ K (A 1) Lf, mI K (A 4) 16384 (fcA Lf n f0 (2 ^ n)), mI K (A 5) 16384 (mcX (mcV Lf n) i j μ0 (d + 1))]) (by rw [mcX, hv]) ih
      have join : ∀ bt, bt = mcT (mcV Lf n) i (i + d) j → zv_V x (gz K (zq 3 0 0 120) 7 cX9_muOfCuts yX9_muOfCuts.cls) 96 [(0, .ref (A 0)), (1, .int (nI i)), (2, .int (nI j)), (3, .int (nI (i + d)))] [.int (bI bt)] [mO A n (nI (mcN Lf n)), mZ K (A 1) Lf, mI K (A 4) 16384 (fcA Lf n f0 (2 ^ n)), mI K (A 5) 16384 (mcX (mcV Lf n) i j μ0 d)] 0 0 := by
        intro bt hbt
        have nxt : zv_V x (gz K (zq 3 0 0 120) 7 cX9_muOfCuts yX9_muOfCuts.cls) 117 [(0, .ref (A 0)), (1, .int (nI i)), (2, .int (nI j)), (3, .int (nI (i + d))), (4, .int (bI bt)), (5, .int (nI i))] [] [mO A n (nI (mcN Lf n)), mZ K (A 1) Lf, mI K (A 4) 16384 (fcA Lf n f0 (2 ^ n)), mI K (A 5) 16384 (upd (mcX (mcV Lf n) i j μ0 d) (i + d) (mcY (mcV Lf n) i (i + d) (mcX (mcV Lf n) i j μ0 d) 0))] 0 0 := by
          cases hb : bt with
          | true =>
            refine inner d (by omega) (by rw [← hbt, hb]) (fun lv2 hl2 => back true _ lv2 (by rw [← hbt, hb, if_pos rfl]) hl2) 0 (Nat.zero_le _)
          | false =>
            refine zv_go C okX9_muOfCuts [204] 20 ?_
            refine ⟨fun _ => ?_, fun _ => ⟨fun _ => ?_, fun h => absurd rfl h⟩⟩
            · exact back false _ [_] (by rw [← hbt, hb] <;> rfl) (Or.inr ⟨_, 0, Or.inr rfl⟩)
            · exact back false _ [_] (by rw [← hbt, hb] <;> rfl) (Or.inr ⟨_, 0, Or.inr rfl⟩)
        refine zv_go C okX9_muOfCuts [117] 30 ?_
        refine ⟨rfl, fun h => ⟨⟨rfl, rfl⟩, hin _ (by omega), ?_⟩, fun h => ⟨⟨rfl, rfl⟩, hin _ (by omega), ?_⟩⟩
        · rw [nb_inj (by omega) (by omega)] at h
          refine zv_to C rfl rfl ?_ nxt
          show [_, _, _, (A 5, Sum.inl (cI K, 16384, Sum.inl (upd (mcX (mcV Lf n) i j μ0 d) (nI (i + d)).toNatClampNeg 0)))] = _
          rw [ex, mcY, if_neg h]
        · rw [nb_inj (by omega) (by omega)] at h
          refine zv_to C rfl rfl ?_ nxt
          show [_, _, _, (A 5, Sum.inl (cI K, 16384, Sum.inl (upd (mcX (mcV Lf n) i j μ0 d) (nI (i + d)).toNatClampNeg 1)))] = _
          rw [ex, mcY, if_pos h]
      refine zv_go C okX9_muOfCuts [96] 40 ?_
      refine ⟨fun h => absurd h (nI_nlt (by omega) (by omega)), fun _ => ⟨rfl, ⟨rfl, rfl⟩, hin _ (by omega), rfl, ⟨rfl, rfl⟩, hin _ (by omega), fun h => ?_, fun h => ⟨rfl, ⟨rfl, rfl⟩, hin _ (by omega), rfl, ⟨rfl, rfl⟩, hin _ (by omega), fun h2 => ?_, fun h2 => ?_⟩⟩⟩
      · have h := fun q => h ((sub i (i + d) (by omega) (by omega)).mpr q)
        exact join false (by unfold mcT; rw [decide_eq_false h]; rfl)
      · have h := (sub i (i + d) (by omega) (by omega)).mp h
        have h2 := fun q => h2 ((sub (i + d) j (by omega) (by omega)).mpr q)
        exact join false (by unfold mcT; rw [decide_eq_true h, decide_eq_false h2]; rfl)
      · have h := (sub i (i + d) (by omega) (by omega)).mp h
        have h2 := (sub (i + d) j (by omega) (by omega)).mp h2
        exact join true (by unfold mcT; rw [decide_eq_true h, decide_eq_true h2]; rfl)
  refine zv_go C okX9_muOfCuts [] 20 ?_
  refine zv_callV C (m_findCuts K A n cc Lf f0 hn) (zw_V inX9_findCuts kX9_87 ⟨by decide, by decide⟩) [0, 1, 2] 0 rfl rfl rfl rfl (fun _ => Nat.le_refl _) rfl rfl (by decide) dzX9_muOfCuts_1 (by decide) (by decide) rfl (fun _ _ => ?_)
  refine zv_to C rfl rfl (ws' := [mO A n (nI (mcN Lf n)), mZ K (A 1) Lf, mI K (A 4) 16384 (fcA Lf n f0 (2 ^ n)), mI K (A 5) 16384 μ0]) rfl ?_
  refine zv_go C okX9_muOfCuts [50] 40 ?_
  refine ⟨fun h1 => absurd h1 (nI_nlt (b := 0) (Nat.zero_le _) (by omega)), fun h1 => ⟨rfl, fun h2 => absurd h2 (nI_ge hi (by omega)), fun h2 => ⟨fun h3 => absurd h3 (nI_nlt (b := 0) (Nat.zero_le _) (by omega)), fun h3 => ⟨rfl, fun h4 => absurd h4 (nI_ge hj (by omega)), fun h4 => ⟨rfl, ⟨rfl, rfl⟩, hin i hi, rfl, ⟨rfl, rfl⟩, hin j hj, fun h5 => ?_, fun h5 => ?_⟩⟩⟩⟩⟩
  · exact loop 0 (Nat.zero_le _)
  · exact absurd ((sub i j hi hj).mpr hd) h5
set_option maxHeartbeats 4000000 in
set_option maxRecDepth 100000 in
theorem m_mu_no (Lf : Nat → Bool) (μ0 : Nat → Int32) (a b : Int32) (h : hasb n a = false ∨ hasb n b = false) : zD K yX9_mu cX9_mu 9 (some .int) (zq 1 0 0 40) [.ref (A 0), .int a, .int b] [mO A n cc, mZ K (A 1) Lf, mI K (A 5) 16384 μ0] (some (.int 0)) [mO A n cc, mZ K (A 1) Lf, mI K (A 5) 16384 μ0] := by
  refine zo (by decide) (Nat.le_of_ble_eq_true rfl) fun x C R _ => ?_
  refine zv_go C okX9_mu [] 20 ?_
  refine zv_callV C (m_has K A n cc a) (zw_V inX9_has kX9_42 ⟨by decide, by decide⟩) [0] 0 rfl rfl rfl rfl (fun _ => Nat.le_refl _) rfl rfl (by decide) dzX9_mu_2 (by decide) (by decide) rfl (fun _ _ => ?_)
  refine zv_to C rfl rfl (ws' := [mO A n cc, mZ K (A 1) Lf, mI K (A 5) 16384 μ0]) rfl ?_
  refine zv_go C okX9_mu [] 20 ?_
  refine ⟨fun h1 => ?_, fun h1 => ?_⟩
  · exact zr R () [0, 1, 2] (some (.int 0)) _ rfl rfl trivial rfl rfl (Nat.zero_le _) (Nat.zero_le _) dzX9_mu_31
  refine zv_callV C (m_has K A n cc b) (zw_V inX9_has kX9_42 ⟨by decide, by decide⟩) [0] 0 rfl rfl rfl rfl (fun _ => Nat.le_refl _) rfl rfl (by decide) dzX9_mu_10 (by decide) (by decide) rfl (fun _ _ => ?_)
  refine zv_to C rfl rfl (ws' := [mO A n cc, mZ K (A 1) Lf, mI K (A 5) 16384 μ0]) rfl ?_
  refine zv_go C okX9_mu [16] 20 ?_
  refine ⟨fun h2 => ?_, fun h2 => ?_⟩
  · exact zr R () [0, 1, 2] (some (.int 0)) _ rfl rfl trivial rfl rfl (Nat.zero_le _) (Nat.zero_le _) dzX9_mu_31
  rw [bI_1] at h1 h2
  rcases h with h | h
  · rw [h] at h1; cases h1
  · rw [h] at h2; cases h2
set_option maxHeartbeats 4000000 in
set_option maxRecDepth 100000 in
theorem m_mu_0 (Lf : Nat → Bool) (μ0 : Nat → Int32) {i j : Nat} (hi : i < n) (hj : j < n) (hn : n ≤ 14) (hij : i ≠ j) (hl : Lf (16 * i + j) = false) : zD K yX9_mu cX9_mu 9 (some .int) (zq 1 0 0 40) [.ref (A 0), .int (nI i), .int (nI j)] [mO A n cc, mZ K (A 1) Lf, mI K (A 5) 16384 μ0] (some (.int 0)) [mO A n cc, mZ K (A 1) Lf, mI K (A 5) 16384 μ0] := by
  refine zo (by decide) (Nat.le_of_ble_eq_true rfl) fun x C R _ => ?_
  refine zv_go C okX9_mu [] 20 ?_
  refine zv_callV C (m_has K A n cc (nI i)) (zw_V inX9_has kX9_42 ⟨by decide, by decide⟩) [0] 0 rfl rfl rfl rfl (fun _ => Nat.le_refl _) rfl rfl (by decide) dzX9_mu_2 (by decide) (by decide) rfl (fun _ _ => ?_)
  refine zv_to C rfl rfl (ws' := [mO A n cc, mZ K (A 1) Lf, mI K (A 5) 16384 μ0]) rfl ?_
  refine zv_go C okX9_mu [] 20 ?_
  refine ⟨fun h1 => ?_, fun h1 => ?_⟩
  · rw [bI_0, hasb_nI (by omega) (by omega), decide_eq_false_iff_not] at h1; exact absurd hi h1
  refine zv_callV C (m_has K A n cc (nI j)) (zw_V inX9_has kX9_42 ⟨by decide, by decide⟩) [0] 0 rfl rfl rfl rfl (fun _ => Nat.le_refl _) rfl rfl (by decide) dzX9_mu_10 (by decide) (by decide) rfl (fun _ _ => ?_)
  refine zv_to C rfl rfl (ws' := [mO A n cc, mZ K (A 1) Lf, mI K (A 5) 16384 μ0]) rfl ?_
  refine zv_go C okX9_mu [34] 20 ?_
  refine ⟨fun h1 => ?_, fun h1 => ⟨fun h3 => ?_, fun h3 => ?_⟩⟩
  · rw [bI_0, hasb_nI (by omega) (by omega), decide_eq_false_iff_not] at h1; exact absurd hj h1
  · exact absurd ((nb_inj (by omega) (by omega)).mp h3) hij
  refine zv_callV C (m_is K A n cc Lf (a := i) (b := j) (by omega)) (zw_V inX9_is kX9_46 ⟨by decide, by decide⟩) [0, 1] 0 rfl rfl rfl rfl (fun _ => Nat.le_refl _) rfl rfl (by decide) dzX9_mu_24 (by decide) (by decide) rfl (fun _ _ => ?_)
  refine zv_to C rfl rfl (ws' := [mO A n cc, mZ K (A 1) Lf, mI K (A 5) 16384 μ0]) rfl ?_
  refine zv_go C okX9_mu [34] 20 ?_
  refine ⟨fun h4 => ?_, fun h4 => ?_⟩
  · rw [bI_1, hl] at h4; cases h4
  · exact zr R () [0, 1, 2] (some (.int 0)) _ rfl rfl trivial rfl rfl (Nat.zero_le _) (Nat.zero_le _) dzX9_mu_31
set_option maxHeartbeats 4000000 in
set_option maxRecDepth 100000 in
theorem m_mu (Lf : Nat → Bool) (μ0 : Nat → Int32) {i j : Nat} (hi : i < n) (hj : j < n) (hn : n ≤ 14) (hij : i = j ∨ Lf (16 * i + j) = true) : zD K yX9_mu cX9_mu 9 (some .int) (zq 1 0 0 40) [.ref (A 0), .int (nI i), .int (nI j)] [mO A n cc, mZ K (A 1) Lf, mI K (A 5) 16384 μ0] (some (.int ((quH Lf n i μ0 (n + 1)) j))) [mO A n cc, mZ K (A 1) Lf, mI K (A 5) 16384 (quH Lf n i μ0 (n + 1))] := by
  refine zo (by decide) (Nat.le_of_ble_eq_true rfl) fun x C R _ => ?_
  have inner : ∀ h xx, xx < n → (zv_V x (gz K (zq 1 0 0 40) 9 cX9_mu yX9_mu.cls) 158 [(0, .ref (A 0)), (1, .int (nI i)), (2, .int (nI j)), (3, .int (nI h)), (4, .int (nI xx)), (5, .int (nI (quU Lf i xx n))), (6, .int (quS Lf i xx (quX Lf n i h (quH Lf n i μ0 h) xx) n)), (7, .int (nI n))] [] [mO A n cc, mZ K (A 1) Lf, mI K (A 5) 16384 (quX Lf n i h (quH Lf n i μ0 h) xx)] 0 0) → ∀ y, y ≤ n → zv_V x (gz K (zq 1 0 0 40) 9 cX9_mu yX9_mu.cls) 73 [(0, .ref (A 0)), (1, .int (nI i)), (2, .int (nI j)), (3, .int (nI h)), (4, .int (nI xx)), (5, .int (nI (quU Lf i xx y))), (6, .int (quS Lf i xx (quX Lf n i h (quH Lf n i μ0 h) xx) y)), (7, .int (nI y))] [] [mO A n cc, mZ K (A 1) Lf, mI K (A 5) 16384 (quX Lf n i h (quH Lf n i μ0 h) xx)] 0 0 := by
    intro h xx hxx hend
    refine zl n ?_ fun y hy ih => ?_
    · refine zv_go C okX9_mu [158] 20 ?_
      refine ⟨rfl, fun _ => ?_, fun h => absurd (nI_le (Nat.le_refl _) (by omega)) h⟩
      exact hend
    · have ey : (nI y).toNatClampNeg = y := nI_clamp (by omega)
      have yin : vp_in (nI y) 16384 := vp_in_nI (by omega) (by decide)
      have join : ∀ b, b = quB Lf i xx y → zv_V x (gz K (zq 1 0 0 40) 9 cX9_mu yX9_mu.cls) 114 [(0, .ref (A 0)), (1, .int (nI i)), (2, .int (nI j)), (3, .int (nI h)), (4, .int (nI xx)), (5, .int (nI (quU Lf i xx y))), (6, .int (quS Lf i xx (quX Lf n i h (quH Lf n i μ0 h) xx) y)), (7, .int (nI y))] [.int (bI b)] [mO A n cc, mZ K (A 1) Lf, mI K (A 5) 16384 (quX Lf n i h (quH Lf n i μ0 h) xx)] 0 0 := by
        intro b hb
        have eu : (quU Lf i xx (y + 1)) = (quU Lf i xx y) + b.toNat := by rw [quU, ← hb]
        have es : (quS Lf i xx (quX Lf n i h (quH Lf n i μ0 h) xx) (y + 1)) = (quS Lf i xx (quX Lf n i h (quH Lf n i μ0 h) xx) y) + (if b = true then (quX Lf n i h (quH Lf n i μ0 h) xx) y else 0) := by rw [quS, ← hb]
        refine zv_go C okX9_mu [73] 40 ?_
        refine ⟨fun h1 => ⟨fun h2 => ?_, fun h2 => absurd h1 h2⟩, fun h1 => ⟨fun h2 => absurd h2 h1, fun h2 => ⟨rfl, ⟨rfl, rfl⟩, yin, ?_⟩⟩⟩
        · rw [bI_0] at h1
          subst h1
          refine zv_drop C [0, 1, 2, 3, 4, 5, 6, 7] (lv' := [(0, .ref (A 0)), (1, .int (nI i)), (2, .int (nI j)), (3, .int (nI h)), (4, .int (nI xx)), (5, .int (nI (quU Lf i xx (y + 1)))), (6, .int (quS Lf i xx (quX Lf n i h (quH Lf n i μ0 h) xx) (y + 1))), (7, .int (nI (y + 1)))]) ?_ ih
          rw [eu, es, ← nI_1 y, ← nI_add]
          rfl
        · rw [bI_1] at h1
          subst h1
          refine zv_drop C [0, 1, 2, 3, 4, 5, 6, 7] (lv' := [(0, .ref (A 0)), (1, .int (nI i)), (2, .int (nI j)), (3, .int (nI h)), (4, .int (nI xx)), (5, .int (nI (quU Lf i xx (y + 1)))), (6, .int (quS Lf i xx (quX Lf n i h (quH Lf n i μ0 h) xx) (y + 1))), (7, .int (nI (y + 1)))]) ?_ ih
          rw [eu, es, ← nI_1 y, ← nI_add]
          show [_, _, _, _, _, _, (6, Value.int ((quS Lf i xx (quX Lf n i h (quH Lf n i μ0 h) xx) y) + (quX Lf n i h (quH Lf n i μ0 h) xx) (nI y).toNatClampNeg)), _] = _
          rw [ey]
          rfl
      have second : (decide (y = i) || Lf (16 * i + y)) = true → zv_V x (gz K (zq 1 0 0 40) 9 cX9_mu yX9_mu.cls) 98 [(0, .ref (A 0)), (1, .int (nI i)), (2, .int (nI j)), (3, .int (nI h)), (4, .int (nI xx)), (5, .int (nI (quU Lf i xx y))), (6, .int (quS Lf i xx (quX Lf n i h (quH Lf n i μ0 h) xx) y)), (7, .int (nI y))] [] [mO A n cc, mZ K (A 1) Lf, mI K (A 5) 16384 (quX Lf n i h (quH Lf n i μ0 h) xx)] 0 0 := by
        intro ha
        refine zv_go C okX9_mu [] 20 ?_
        refine zv_callV C (m_is K A n cc Lf (a := y) (b := xx) (by omega)) (zw_V inX9_is kX9_46 ⟨by decide, by decide⟩) [0, 1] 0 rfl rfl rfl rfl (fun _ => Nat.le_refl _) rfl rfl (by decide) dzX9_mu_103 (by decide) (by decide) rfl (fun _ _ => ?_)
        refine zv_to C rfl rfl (ws' := [mO A n cc, mZ K (A 1) Lf, mI K (A 5) 16384 (quX Lf n i h (quH Lf n i μ0 h) xx)]) rfl ?_
        refine zv_go C okX9_mu [114] 20 ?_
        refine ⟨fun h2 => ?_, fun h2 => ?_⟩
        · rw [bI_0] at h2
          exact join false (by unfold quB; rw [ha, h2]; rfl)
        · rw [bI_1] at h2
          exact join true (by unfold quB; rw [ha, h2]; rfl)
      refine zv_go C okX9_mu [98] 20 ?_
      refine ⟨rfl, fun h => absurd h (nI_ge (by omega) (by omega)), fun _ => ⟨fun h1 => ?_, fun h1 => ?_⟩⟩
      · rw [nb_inj (by omega) (by omega)] at h1
        exact second (by rw [decide_eq_true h1]; rfl)
      · rw [nb_inj (by omega) (by omega)] at h1
        refine zv_callV C (m_is K A n cc Lf (a := i) (b := y) (by omega)) (zw_V inX9_is kX9_46 ⟨by decide, by decide⟩) [0, 1] 0 rfl rfl rfl rfl (fun _ => Nat.le_refl _) rfl rfl (by decide) dzX9_mu_92 (by decide) (by decide) rfl (fun _ _ => ?_)
        refine zv_to C rfl rfl (ws' := [mO A n cc, mZ K (A 1) Lf, mI K (A 5) 16384 (quX Lf n i h (quH Lf n i μ0 h) xx)]) rfl ?_
        refine zv_go C okX9_mu [98, 114] 20 ?_
        refine ⟨fun h2 => ?_, fun h2 => ?_⟩
        · rw [bI_0] at h2
          exact join false (by unfold quB; rw [decide_eq_false h1, h2]; rfl)
        · rw [bI_1] at h2
          exact second (by rw [h2]; simp)
  have mid : ∀ h, h ≤ n → (zv_V x (gz K (zq 1 0 0 40) 9 cX9_mu yX9_mu.cls) 34 [(0, .ref (A 0)), (1, .int (nI i)), (2, .int (nI j)), (3, .int (nI (h + 1)))] [] [mO A n cc, mZ K (A 1) Lf, mI K (A 5) 16384 (quH Lf n i μ0 (h + 1))] 0 0) → ∀ xx, xx ≤ n → zv_V x (gz K (zq 1 0 0 40) 9 cX9_mu yX9_mu.cls) 45 [(0, .ref (A 0)), (1, .int (nI i)), (2, .int (nI j)), (3, .int (nI h)), (4, .int (nI xx))] [] [mO A n cc, mZ K (A 1) Lf, mI K (A 5) 16384 (quX Lf n i h (quH Lf n i μ0 h) xx)] 0 0 := by
    intro h hh hend
    refine zl n ?_ fun xx hxx ih => ?_
    · refine zv_go C okX9_mu [34] 20 ?_
      refine ⟨rfl, fun _ => ?_, fun h => absurd (nI_le (Nat.le_refl _) (by omega)) h⟩
      refine zv_drop C [0, 1, 2, 3] (lv' := [(0, .ref (A 0)), (1, .int (nI i)), (2, .int (nI j)), (3, .int (nI (h + 1)))]) (by rw [← nI_1 h] <;> rfl) ?_
      exact hend
    · have exx : (nI xx).toNatClampNeg = xx := nI_clamp (by omega)
      have xin : vp_in (nI xx) 16384 := vp_in_nI (by omega) (by decide)
      have hul := quU_le Lf i xx n
      have stay : ((decide (xx = i) || Lf (16 * i + xx)) && decide ((quU Lf i xx n) = h)) = false → zv_V x (gz K (zq 1 0 0 40) 9 cX9_mu yX9_mu.cls) 190 [(0, .ref (A 0)), (1, .int (nI i)), (2, .int (nI j)), (3, .int (nI h)), (4, .int (nI xx)), (5, .int (nI (quU Lf i xx n))), (6, .int (quS Lf i xx (quX Lf n i h (quH Lf n i μ0 h) xx) n)), (7, .int (nI n))] [] [mO A n cc, mZ K (A 1) Lf, mI K (A 5) 16384 (quX Lf n i h (quH Lf n i μ0 h) xx)] 0 0 := by
        intro hno
        refine zv_go C okX9_mu [45] 20 ?_
        refine zv_drop C [0, 1, 2, 3, 4] (lv' := [(0, .ref (A 0)), (1, .int (nI i)), (2, .int (nI j)), (3, .int (nI h)), (4, .int (nI (xx + 1)))]) (by rw [← nI_1 xx] <;> rfl) ?_
        refine zv_to C rfl rfl (ws' := [mO A n cc, mZ K (A 1) Lf, mI K (A 5) 16384 (quX Lf n i h (quH Lf n i μ0 h) (xx + 1))]) (by rw [quX, if_neg (by rw [hno]; simp)]) ih
      have test : (decide (xx = i) || Lf (16 * i + xx)) = true → zv_V x (gz K (zq 1 0 0 40) 9 cX9_mu yX9_mu.cls) 174 [(0, .ref (A 0)), (1, .int (nI i)), (2, .int (nI j)), (3, .int (nI h)), (4, .int (nI xx)), (5, .int (nI (quU Lf i xx n))), (6, .int (quS Lf i xx (quX Lf n i h (quH Lf n i μ0 h) xx) n)), (7, .int (nI n))] [] [mO A n cc, mZ K (A 1) Lf, mI K (A 5) 16384 (quX Lf n i h (quH Lf n i μ0 h) xx)] 0 0 := by
        intro ha
        refine zv_go C okX9_mu [190] 20 ?_
        refine ⟨fun h1 => ?_, fun h1 => ⟨rfl, ⟨rfl, rfl⟩, xin, ?_⟩⟩
        · rw [nb_inj (by omega) (by omega)] at h1
          exact stay (by rw [decide_eq_false h1, Bool.and_false])
        · rw [nb_inj (by omega) (by omega)] at h1
          refine zv_go C okX9_mu [45] 20 ?_
          refine zv_drop C [0, 1, 2, 3, 4] (lv' := [(0, .ref (A 0)), (1, .int (nI i)), (2, .int (nI j)), (3, .int (nI h)), (4, .int (nI (xx + 1)))]) (by rw [← nI_1 xx] <;> rfl) ?_
          refine zv_to C rfl rfl (ws' := [mO A n cc, mZ K (A 1) Lf, mI K (A 5) 16384 (quX Lf n i h (quH Lf n i μ0 h) (xx + 1))]) ?_ ih
          show [_, _, (A 5, Sum.inl (cI K, 16384, Sum.inl (upd (quX Lf n i h (quH Lf n i μ0 h) xx) (nI xx).toNatClampNeg (-(quS Lf i xx (quX Lf n i h (quH Lf n i μ0 h) xx) n)))))] = _
          rw [exx, quX, if_pos (by rw [ha, decide_eq_true h1]; rfl)]
      have aft : zv_V x (gz K (zq 1 0 0 40) 9 cX9_mu yX9_mu.cls) 158 [(0, .ref (A 0)), (1, .int (nI i)), (2, .int (nI j)), (3, .int (nI h)), (4, .int (nI xx)), (5, .int (nI (quU Lf i xx n))), (6, .int (quS Lf i xx (quX Lf n i h (quH Lf n i μ0 h) xx) n)), (7, .int (nI n))] [] [mO A n cc, mZ K (A 1) Lf, mI K (A 5) 16384 (quX Lf n i h (quH Lf n i μ0 h) xx)] 0 0 := by
        refine zv_go C okX9_mu [174] 20 ?_
        refine ⟨fun h1 => ?_, fun h1 => ?_⟩
        · rw [nb_inj (by omega) (by omega)] at h1
          exact test (by rw [decide_eq_true h1]; rfl)
        · rw [nb_inj (by omega) (by omega)] at h1
          refine zv_callV C (m_is K A n cc Lf (a := i) (b := xx) (by omega)) (zw_V inX9_is kX9_46 ⟨by decide, by decide⟩) [0, 1] 0 rfl rfl rfl rfl (fun _ => Nat.le_refl _) rfl rfl (by decide) dzX9_mu_168 (by decide) (by decide) rfl (fun _ _ => ?_)
          refine zv_to C rfl rfl (ws' := [mO A n cc, mZ K (A 1) Lf, mI K (A 5) 16384 (quX Lf n i h (quH Lf n i μ0 h) xx)]) rfl ?_
          refine zv_go C okX9_mu [174, 190] 20 ?_
          refine ⟨fun h2 => ?_, fun h2 => ?_⟩
          · rw [bI_0] at h2
            exact stay (by rw [decide_eq_false h1, h2]; rfl)
          · rw [bI_1] at h2
            exact test (by rw [h2]; simp)
      have es0 : (quS Lf i xx (quX Lf n i h (quH Lf n i μ0 h) xx) 0) = if xx = i then -1 else 0 := rfl
      refine zv_go C okX9_mu [73] 30 ?_
      refine ⟨rfl, fun h => absurd h (nI_ge (by omega) (by omega)), fun _ => ⟨fun h1 => ?_, fun h1 => ?_⟩⟩
      · rw [nb_inj (by omega) (by omega)] at h1
        exact zv_to C (lv' := [(0, .ref (A 0)), (1, .int (nI i)), (2, .int (nI j)), (3, .int (nI h)), (4, .int (nI xx)), (5, .int (nI (quU Lf i xx 0))), (6, .int (quS Lf i xx (quX Lf n i h (quH Lf n i μ0 h) xx) 0)), (7, .int (nI 0))]) (by rw [es0, if_neg h1] <;> rfl) rfl rfl (inner h xx hxx aft 0 (Nat.zero_le _))
      · rw [nb_inj (by omega) (by omega)] at h1
        exact zv_to C (lv' := [(0, .ref (A 0)), (1, .int (nI i)), (2, .int (nI j)), (3, .int (nI h)), (4, .int (nI xx)), (5, .int (nI (quU Lf i xx 0))), (6, .int (quS Lf i xx (quX Lf n i h (quH Lf n i μ0 h) xx) 0)), (7, .int (nI 0))]) (by rw [es0, if_pos h1] <;> rfl) rfl rfl (inner h xx hxx aft 0 (Nat.zero_le _))
  have loop : ∀ h, h ≤ n + 1 → zv_V x (gz K (zq 1 0 0 40) 9 cX9_mu yX9_mu.cls) 34 [(0, .ref (A 0)), (1, .int (nI i)), (2, .int (nI j)), (3, .int (nI h))] [] [mO A n cc, mZ K (A 1) Lf, mI K (A 5) 16384 (quH Lf n i μ0 h)] 0 0 := by
    refine zl (n + 1) ?_ fun h hh ih => ?_
    · refine zv_go C okX9_mu [] 20 ?_
      refine ⟨rfl, fun _ => ⟨rfl, ⟨rfl, rfl⟩, vp_in_nI (by omega) (by decide), ?_⟩, fun h => absurd (nI_lt (by omega) (by omega)) h⟩
      exact zr R () [0, 1, 2] (some (.int _)) _ (by rw [nI_clamp (by omega)]) rfl trivial rfl rfl (Nat.zero_le _) (Nat.zero_le _) dzX9_mu_208
    · refine zv_go C okX9_mu [45] 20 ?_
      refine ⟨rfl, fun h => absurd h (nI_nlt (by omega) (by omega)), fun _ => ?_⟩
      exact mid h (by omega) ih 0 (Nat.zero_le _)
  refine zv_go C okX9_mu [] 20 ?_
  refine zv_callV C (m_has K A n cc (nI i)) (zw_V inX9_has kX9_42 ⟨by decide, by decide⟩) [0] 0 rfl rfl rfl rfl (fun _ => Nat.le_refl _) rfl rfl (by decide) dzX9_mu_2 (by decide) (by decide) rfl (fun _ _ => ?_)
  refine zv_to C rfl rfl (ws' := [mO A n cc, mZ K (A 1) Lf, mI K (A 5) 16384 μ0]) rfl ?_
  refine zv_go C okX9_mu [] 20 ?_
  refine ⟨fun h1 => ?_, fun h1 => ?_⟩
  · rw [bI_0, hasb_nI (by omega) (by omega), decide_eq_false_iff_not] at h1; exact absurd hi h1
  refine zv_callV C (m_has K A n cc (nI j)) (zw_V inX9_has kX9_42 ⟨by decide, by decide⟩) [0] 0 rfl rfl rfl rfl (fun _ => Nat.le_refl _) rfl rfl (by decide) dzX9_mu_10 (by decide) (by decide) rfl (fun _ _ => ?_)
  refine zv_to C rfl rfl (ws' := [mO A n cc, mZ K (A 1) Lf, mI K (A 5) 16384 μ0]) rfl ?_
  refine zv_go C okX9_mu [34] 20 ?_
  refine ⟨fun h1 => ?_, fun h1 => ⟨fun h3 => ?_, fun h3 => ?_⟩⟩
  · rw [bI_0, hasb_nI (by omega) (by omega), decide_eq_false_iff_not] at h1; exact absurd hj h1
  · exact loop 0 (Nat.zero_le _)
  refine zv_callV C (m_is K A n cc Lf (a := i) (b := j) (by omega)) (zw_V inX9_is kX9_46 ⟨by decide, by decide⟩) [0, 1] 0 rfl rfl rfl rfl (fun _ => Nat.le_refl _) rfl rfl (by decide) dzX9_mu_24 (by decide) (by decide) rfl (fun _ _ => ?_)
  refine zv_to C rfl rfl (ws' := [mO A n cc, mZ K (A 1) Lf, mI K (A 5) 16384 μ0]) rfl ?_
  refine zv_go C okX9_mu [34] 20 ?_
  refine ⟨fun h4 => ?_, fun h4 => ?_⟩
  · exact loop 0 (Nat.zero_le _)
  · rw [bI_0] at h4
    rcases hij with e | e
    · exact absurd (by rw [e]) h3
    · rw [h4] at e; cases e
end MH
end
