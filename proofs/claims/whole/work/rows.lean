section
/-! THE WALKING LAYER. zv_V: the machine at pc with locals lv, stack st, world ws comes to its end. zv_ev: what zv_V at a pc comes down to, instruction by instruction, until a leaf (a call, a return, a stop). -/
abbrev zv_H : Type := Nat × Nat × Nat × Nat × Int32 × Int64
abbrev zv_I : Type := Nat × Jvm.ClassFile.Instr × Nat × zv_H
abbrev zv_L : Type := List (Nat × Value)
abbrev zv_X : Type := Program × Env × State × MethodId × Array Value × List Frame × Method × Code × (Nat → Prop) × (State → Prop)
abbrev zv_G : Type := Launch × Room × va_G × List vw_C × List (ClassId × FieldType) × Nat × ByteArray × String × List Jvm.Cond
def zv_V (x : zv_X) (g : zv_G) (pc : Nat) (lv : zv_L) (st : List Value) (ws : va_W) (ce sl : Nat) : Prop := match x, g with
  | (p, e, s, m, args, below, meth, c, A, Q), (l, R, D, cl, _, nL, _, _, _) => ∀ (H : Heap) (locs : List Loc) (ls : Array Slot), va_P D cl ws H → va_D A ws → va_S A s.heap H locs → lv_has ls nL lv → W p l e R s m args below meth c H locs ce sl Q (F0 m pc ls st)
/-- the links to private members of nest mates -/
def zv_nl : List (String × Nat × MethodName × String) := [("OrderDesk", 9, ⟨"OrderDesk$Order", "<init>", "()V"⟩, "OrderDesk"), ("OrderDesk", 60, ⟨"OrderDesk$MuRow", "<init>", "()V"⟩, "OrderDesk"), ("OrderDesk$MuRow", 29, ⟨"OrderDesk", "isPart", "(II)Z"⟩, "OrderDesk")]
def zv_E (U : State) : Prop := ∀ q ∈ zv_nl, va_Nw (.methodLinkNest q.1 q.2.1 q.2.2.1 q.2.2.2) U
def zv_C (x : zv_X) (g : zv_G) : Prop := match x, g with
  | (p, e, s, m, args, below, meth, c, A, Q), (l, R, D, cl, tys, nL, cc, own, Ts) => p.tables.exec = Jvm.exec ∧ c.code = cc ∧ c.maxLocals = nL ∧ s.vm.findClass own = some m.cls ∧ (∀ w ∈ Ts, w.before args s = true) ∧ va_K D cl tys s ∧ (∀ q, s.heap.size ≤ q → A q) ∧ zv_E s
def zv_find : List zv_I → Nat → Option (Jvm.ClassFile.Instr × Nat × zv_H)
  | [], _ => none
  | (q, r) :: t, pc => bif Nat.beq q pc then some r else zv_find t pc
theorem zv_find_mem : ∀ (tb : List zv_I) (pc : Nat) (r : Jvm.ClassFile.Instr × Nat × zv_H), zv_find tb pc = some r → (pc, r) ∈ tb
  | [], pc, r, h => by cases h
  | (q, r0) :: t, pc, r, h => by
    unfold zv_find at h
    cases hq : Nat.beq q pc with
    | true =>
      rw [hq] at h
      have e : q = pc := Nat.eq_of_beq_eq_true hq
      subst e
      cases h
      exact List.mem_cons_self
    | false =>
      rw [hq] at h
      exact List.mem_cons_of_mem _ (zv_find_mem t pc r h)
-- locals: looked up, set in place
def zv_lg : zv_L → Nat → Option Value
  | [], _ => none
  | (j, v) :: t, i => bif Nat.beq j i then some v else zv_lg t i
theorem zv_lg_mem : ∀ (l : zv_L) (i : Nat) (v : Value), zv_lg l i = some v → (i, v) ∈ l
  | [], i, v, h => by cases h
  | (q, r0) :: t, i, v, h => by
    unfold zv_lg at h
    cases hq : Nat.beq q i with
    | true =>
      rw [hq] at h
      have e : q = i := Nat.eq_of_beq_eq_true hq
      subst e
      cases h
      exact List.mem_cons_self
    | false =>
      rw [hq] at h
      exact List.mem_cons_of_mem _ (zv_lg_mem t i v h)
def zv_c2 : Value → Bool
  | .long _ => true
  | .double _ => true
  | _ => false
theorem zv_c2_eq (v : Value) : (v.category == 2) = zv_c2 v := by cases v <;> rfl
theorem zv_c1_eq {v : Value} (h : zv_c2 v = false) : v.category = 1 := by cases v <;> first | rfl | cases h
theorem zv_c2_of {v : Value} (h : zv_c2 v = true) : v.category = 2 := by cases v <;> first | rfl | cases h
def zv_d1 (i : Nat) (q : Nat × Value) : Bool := Nat.beq (q.1 + 1) i && zv_c2 q.2
def zv_d2 (i : Nat) (q : Nat × Value) : Bool := Nat.beq q.1 (i + 1) || (Nat.beq (q.1 + 1) i && zv_c2 q.2)
def zv_fil (d : Nat × Value → Bool) (i : Nat) : zv_L → zv_L
  | [] => []
  | q :: t => bif Nat.beq q.1 i || d q then zv_fil d i t else q :: zv_fil d i t
def zv_set (d : Nat × Value → Bool) (i : Nat) (v : Value) : zv_L → zv_L
  | [] => [(i, v)]
  | q :: t => bif Nat.beq q.1 i then (i, v) :: zv_fil d i t else bif d q then zv_set d i v t else q :: zv_set d i v t
theorem zv_fil_mem {d : Nat × Value → Bool} {i : Nat} {q : Nat × Value} : ∀ (l : zv_L), q ∈ zv_fil d i l → q ∈ l ∧ q.1 ≠ i ∧ d q = false
  | [], h => by cases h
  | r :: t, h => by
    unfold zv_fil at h
    cases hb : (Nat.beq r.1 i || d r) with
    | true =>
      rw [hb] at h
      obtain ⟨h1, h2⟩ := zv_fil_mem t h
      exact ⟨List.mem_cons_of_mem _ h1, h2⟩
    | false =>
      rw [hb] at h
      rcases List.mem_cons.mp h with h | h
      · subst h
        rw [Bool.or_eq_false_iff] at hb
        refine ⟨List.mem_cons_self, fun e => ?_, hb.2⟩
        rw [e, Nat.beq_refl] at hb
        cases hb.1
      · obtain ⟨h1, h2⟩ := zv_fil_mem t h
        exact ⟨List.mem_cons_of_mem _ h1, h2⟩
theorem zv_set_mem {d : Nat × Value → Bool} {i : Nat} {v : Value} {q : Nat × Value} : ∀ (l : zv_L), q ∈ zv_set d i v l → q = (i, v) ∨ (q ∈ l ∧ q.1 ≠ i ∧ d q = false)
  | [], h => by
    rcases List.mem_cons.mp h with h | h
    · exact Or.inl h
    · cases h
  | r :: t, h => by
    unfold zv_set at h
    cases hb : Nat.beq r.1 i with
    | true =>
      rw [hb] at h
      rcases List.mem_cons.mp h with h | h
      · exact Or.inl h
      · obtain ⟨h1, h2⟩ := zv_fil_mem t h
        exact Or.inr ⟨List.mem_cons_of_mem _ h1, h2⟩
    | false =>
      rw [hb] at h
      cases hd : d r with
      | true =>
        rw [hd] at h
        rcases zv_set_mem t h with h | ⟨h1, h2⟩
        · exact Or.inl h
        · exact Or.inr ⟨List.mem_cons_of_mem _ h1, h2⟩
      | false =>
        rw [hd] at h
        rcases List.mem_cons.mp h with h | h
        · subst h
          refine Or.inr ⟨List.mem_cons_self, fun e => ?_, hd⟩
          rw [e, Nat.beq_refl] at hb
          cases hb
        · rcases zv_set_mem t h with h | ⟨h1, h2⟩
          · exact Or.inl h
          · exact Or.inr ⟨List.mem_cons_of_mem _ h1, h2⟩
theorem zv_beq {a b : Nat} : (a == b) = Nat.beq a b := Bool.eq_iff_iff.mpr ⟨fun h => by rw [beq_iff_eq.mp h]; exact Nat.beq_refl _, fun h => beq_iff_eq.mpr (Nat.eq_of_beq_eq_true h)⟩
theorem zv_beq_ne {a b : Nat} (h : a ≠ b) : (a == b) = false := by simpa using h
theorem zv_has1 {ls : Array Slot} {nL i : Nat} {v : Value} {lv : zv_L} (h : lv_has ls nL ((i, v) :: lv.filter (fun q => !(q.1 == i) && !(q.1 + 1 == i && q.2.category == 2)))) : lv_has ls nL (zv_set (zv_d1 i) i v lv) := by
  refine ⟨h.1, h.2.1, fun q hq => ?_⟩
  rcases zv_set_mem lv hq with e | ⟨h1, h2, h3⟩
  · subst e
    exact h.2.2 _ List.mem_cons_self
  · refine h.2.2 q (List.mem_cons_of_mem _ (List.mem_filter.mpr ⟨h1, ?_⟩))
    unfold zv_d1 at h3
    rw [zv_c2_eq, zv_beq_ne h2]
    rw [zv_beq, h3]
    rfl
theorem zv_has2 {ls : Array Slot} {nL i : Nat} {v : Value} {lv : zv_L} (h : lv_has ls nL ((i, v) :: lv.filter (fun q => !(q.1 == i) && (!(q.1 == i + 1) && !(q.1 + 1 == i && q.2.category == 2))))) : lv_has ls nL (zv_set (zv_d2 i) i v lv) := by
  refine ⟨h.1, h.2.1, fun q hq => ?_⟩
  rcases zv_set_mem lv hq with e | ⟨h1, h2, h3⟩
  · subst e
    exact h.2.2 _ List.mem_cons_self
  · refine h.2.2 q (List.mem_cons_of_mem _ (List.mem_filter.mpr ⟨h1, ?_⟩))
    unfold zv_d2 at h3
    rw [Bool.or_eq_false_iff] at h3
    rw [zv_c2_eq, zv_beq_ne h2]
    rw [zv_beq, zv_beq, h3.1, h3.2]
    rfl
-- shapes of the stack, the locals and the world

def zv_s1i (st : List Value) (f : Int32 → List Value → Prop) (d : Prop) : Prop := match st with
  | .int x :: r => f x r
  | _ => d
theorem zv_s1i_e {st : List Value} {f : Int32 → List Value → Prop} {d G : Prop} (h : zv_s1i st f d) (h1 : ∀ (x : Int32) (r : List Value), st = .int x :: r → f x r → G) (h2 : d → G) : G := by
  unfold zv_s1i at h
  split at h
  · exact h1 _ _ rfl h
  · exact h2 h
def zv_s2i (st : List Value) (f : Int32 → Int32 → List Value → Prop) (d : Prop) : Prop := match st with
  | .int y :: .int x :: r => f x y r
  | _ => d
theorem zv_s2i_e {st : List Value} {f : Int32 → Int32 → List Value → Prop} {d G : Prop} (h : zv_s2i st f d) (h1 : ∀ (x : Int32) (y : Int32) (r : List Value), st = .int y :: .int x :: r → f x y r → G) (h2 : d → G) : G := by
  unfold zv_s2i at h
  split at h
  · exact h1 _ _ _ rfl h
  · exact h2 h
def zv_s1l (st : List Value) (f : Int64 → List Value → Prop) (d : Prop) : Prop := match st with
  | .long x :: r => f x r
  | _ => d
theorem zv_s1l_e {st : List Value} {f : Int64 → List Value → Prop} {d G : Prop} (h : zv_s1l st f d) (h1 : ∀ (x : Int64) (r : List Value), st = .long x :: r → f x r → G) (h2 : d → G) : G := by
  unfold zv_s1l at h
  split at h
  · exact h1 _ _ rfl h
  · exact h2 h
def zv_s2l (st : List Value) (f : Int64 → Int64 → List Value → Prop) (d : Prop) : Prop := match st with
  | .long y :: .long x :: r => f x y r
  | _ => d
theorem zv_s2l_e {st : List Value} {f : Int64 → Int64 → List Value → Prop} {d G : Prop} (h : zv_s2l st f d) (h1 : ∀ (x : Int64) (y : Int64) (r : List Value), st = .long y :: .long x :: r → f x y r → G) (h2 : d → G) : G := by
  unfold zv_s2l at h
  split at h
  · exact h1 _ _ _ rfl h
  · exact h2 h
def zv_sli (st : List Value) (f : Int64 → Int32 → List Value → Prop) (d : Prop) : Prop := match st with
  | .int y :: .long x :: r => f x y r
  | _ => d
theorem zv_sli_e {st : List Value} {f : Int64 → Int32 → List Value → Prop} {d G : Prop} (h : zv_sli st f d) (h1 : ∀ (x : Int64) (y : Int32) (r : List Value), st = .int y :: .long x :: r → f x y r → G) (h2 : d → G) : G := by
  unfold zv_sli at h
  split at h
  · exact h1 _ _ _ rfl h
  · exact h2 h
def zv_s1r (st : List Value) (f : Nat → List Value → Prop) (d : Prop) : Prop := match st with
  | .ref a :: r => f a r
  | _ => d
theorem zv_s1r_e {st : List Value} {f : Nat → List Value → Prop} {d G : Prop} (h : zv_s1r st f d) (h1 : ∀ (a : Nat) (r : List Value), st = .ref a :: r → f a r → G) (h2 : d → G) : G := by
  unfold zv_s1r at h
  split at h
  · exact h1 _ _ rfl h
  · exact h2 h
def zv_sir (st : List Value) (f : Nat → Int32 → List Value → Prop) (d : Prop) : Prop := match st with
  | .int i :: .ref a :: r => f a i r
  | _ => d
theorem zv_sir_e {st : List Value} {f : Nat → Int32 → List Value → Prop} {d G : Prop} (h : zv_sir st f d) (h1 : ∀ (a : Nat) (i : Int32) (r : List Value), st = .int i :: .ref a :: r → f a i r → G) (h2 : d → G) : G := by
  unfold zv_sir at h
  split at h
  · exact h1 _ _ _ rfl h
  · exact h2 h
def zv_siir (st : List Value) (f : Nat → Int32 → Int32 → List Value → Prop) (d : Prop) : Prop := match st with
  | .int x :: .int i :: .ref a :: r => f a i x r
  | _ => d
theorem zv_siir_e {st : List Value} {f : Nat → Int32 → Int32 → List Value → Prop} {d G : Prop} (h : zv_siir st f d) (h1 : ∀ (a : Nat) (i : Int32) (x : Int32) (r : List Value), st = .int x :: .int i :: .ref a :: r → f a i x r → G) (h2 : d → G) : G := by
  unfold zv_siir at h
  split at h
  · exact h1 _ _ _ _ rfl h
  · exact h2 h
def zv_slir (st : List Value) (f : Nat → Int32 → Int64 → List Value → Prop) (d : Prop) : Prop := match st with
  | .long x :: .int i :: .ref a :: r => f a i x r
  | _ => d
theorem zv_slir_e {st : List Value} {f : Nat → Int32 → Int64 → List Value → Prop} {d G : Prop} (h : zv_slir st f d) (h1 : ∀ (a : Nat) (i : Int32) (x : Int64) (r : List Value), st = .long x :: .int i :: .ref a :: r → f a i x r → G) (h2 : d → G) : G := by
  unfold zv_slir at h
  split at h
  · exact h1 _ _ _ _ rfl h
  · exact h2 h
def zv_s1v (st : List Value) (f : Value → List Value → Prop) (d : Prop) : Prop := match st with
  | v :: r => f v r
  | _ => d
theorem zv_s1v_e {st : List Value} {f : Value → List Value → Prop} {d G : Prop} (h : zv_s1v st f d) (h1 : ∀ (v : Value) (r : List Value), st = v :: r → f v r → G) (h2 : d → G) : G := by
  unfold zv_s1v at h
  split at h
  · exact h1 _ _ rfl h
  · exact h2 h
def zv_s2v (st : List Value) (f : Value → Value → List Value → Prop) (d : Prop) : Prop := match st with
  | v :: w :: r => f v w r
  | _ => d
theorem zv_s2v_e {st : List Value} {f : Value → Value → List Value → Prop} {d G : Prop} (h : zv_s2v st f d) (h1 : ∀ (v : Value) (w : Value) (r : List Value), st = v :: w :: r → f v w r → G) (h2 : d → G) : G := by
  unfold zv_s2v at h
  split at h
  · exact h1 _ _ _ rfl h
  · exact h2 h
def zv_s3v (st : List Value) (f : Value → Value → Value → List Value → Prop) (d : Prop) : Prop := match st with
  | v :: w :: z :: r => f v w z r
  | _ => d
theorem zv_s3v_e {st : List Value} {f : Value → Value → Value → List Value → Prop} {d G : Prop} (h : zv_s3v st f d) (h1 : ∀ (v : Value) (w : Value) (z : Value) (r : List Value), st = v :: w :: z :: r → f v w z r → G) (h2 : d → G) : G := by
  unfold zv_s3v at h
  split at h
  · exact h1 _ _ _ _ rfl h
  · exact h2 h
def zv_svr (st : List Value) (f : Value → Nat → List Value → Prop) (d : Prop) : Prop := match st with
  | v :: .ref a :: r => f v a r
  | _ => d
theorem zv_svr_e {st : List Value} {f : Value → Nat → List Value → Prop} {d G : Prop} (h : zv_svr st f d) (h1 : ∀ (v : Value) (a : Nat) (r : List Value), st = v :: .ref a :: r → f v a r → G) (h2 : d → G) : G := by
  unfold zv_svr at h
  split at h
  · exact h1 _ _ _ rfl h
  · exact h2 h
def zv_li (lv : zv_L) (i : Nat) (f : Int32 → Prop) (d : Prop) : Prop := match zv_lg lv i with
  | some (.int x) => f x
  | _ => d
theorem zv_li_e {lv : zv_L} {i : Nat} {f : Int32 → Prop} {d G : Prop} (h : zv_li lv i f d) (h1 : ∀ x, (i, Value.int x) ∈ lv → f x → G) (h2 : d → G) : G := by
  unfold zv_li at h
  split at h
  · exact h1 _ (zv_lg_mem _ _ _ (by assumption)) h
  · exact h2 h
def zv_ll (lv : zv_L) (i : Nat) (f : Int64 → Prop) (d : Prop) : Prop := match zv_lg lv i with
  | some (.long x) => f x
  | _ => d
theorem zv_ll_e {lv : zv_L} {i : Nat} {f : Int64 → Prop} {d G : Prop} (h : zv_ll lv i f d) (h1 : ∀ x, (i, Value.long x) ∈ lv → f x → G) (h2 : d → G) : G := by
  unfold zv_ll at h
  split at h
  · exact h1 _ (zv_lg_mem _ _ _ (by assumption)) h
  · exact h2 h
def zv_lr (lv : zv_L) (i : Nat) (f : Nat → Prop) (d : Prop) : Prop := match zv_lg lv i with
  | some (.ref x) => f x
  | _ => d
theorem zv_lr_e {lv : zv_L} {i : Nat} {f : Nat → Prop} {d G : Prop} (h : zv_lr lv i f d) (h1 : ∀ x, (i, Value.ref x) ∈ lv → f x → G) (h2 : d → G) : G := by
  unfold zv_lr at h
  split at h
  · exact h1 _ (zv_lg_mem _ _ _ (by assumption)) h
  · exact h2 h
def zv_ob (ws : va_W) (q0 ci k : Nat) (f : Nat → Value → Prop) (d : Prop) : Prop := match ws[q0]? with
  | some (a, .inr (c, fs)) => bif Nat.beq c ci then (match fs[k]? with
    | some v => f a v
    | none => d) else d
  | _ => d
theorem zv_ob_e {ws : va_W} {q0 ci k : Nat} {f : Nat → Value → Prop} {d G : Prop} (h : zv_ob ws q0 ci k f d) (h1 : ∀ a fs v, ws[q0]? = some (a, .inr (ci, fs)) → fs[k]? = some v → f a v → G) (h2 : d → G) : G := by
  unfold zv_ob at h
  split at h
  · rename_i a c fs hw
    cases hc : Nat.beq c ci with
    | true =>
      rw [hc] at h
      have e : c = ci := Nat.eq_of_beq_eq_true hc
      subst e
      simp only [cond_true] at h
      split at h
      · exact h1 _ _ _ hw (by assumption) h
      · exact h2 h
    | false =>
      rw [hc] at h
      exact h2 h
  · exact h2 h
/-- a field's new value: of a kind with its type (0 int, 1 long, 2 a reference) -/
def zv_kd (kd : Nat) (v : Value) : Bool := match v with
  | .int _ => Nat.beq kd 0
  | .long _ => Nat.beq kd 1
  | .ref _ => Nat.beq kd 2
  | _ => false
def zv_pb (ws : va_W) (q0 ci k kd : Nat) (v : Value) (f : Nat → va_W → Prop) (d : Prop) : Prop := match ws[q0]? with
  | some (a, .inr (c, fs)) => bif Nat.beq c ci && (Nat.ble (k + 1) fs.length && zv_kd kd v) then f a (ws.set q0 (a, .inr (ci, fs.set k v))) else d
  | _ => d
theorem zv_pb_e {ws : va_W} {q0 ci k kd : Nat} {v : Value} {f : Nat → va_W → Prop} {d G : Prop} (h : zv_pb ws q0 ci k kd v f d) (h1 : ∀ a fs, ws[q0]? = some (a, .inr (ci, fs)) → k < fs.length → zv_kd kd v = true → f a (ws.set q0 (a, .inr (ci, fs.set k v))) → G) (h2 : d → G) : G := by
  unfold zv_pb at h
  split at h
  · rename_i a c fs hw
    cases hc : Nat.beq c ci && (Nat.ble (k + 1) fs.length && zv_kd kd v) with
    | true =>
      rw [hc] at h
      simp only [Bool.and_eq_true] at hc
      obtain ⟨h3, h4, h5⟩ := hc
      have e : c = ci := Nat.eq_of_beq_eq_true h3
      subst e
      exact h1 _ _ hw (Nat.le_of_ble_eq_true h4) h5 h
    | false =>
      rw [hc] at h
      exact h2 h
  · exact h2 h

def zv_ai (ws : va_W) (q0 : Nat) (f : Nat → ClassId → Nat → (Nat → Int32) → Prop) (d : Prop) : Prop := match ws[q0]? with
  | some (a, .inl (cA, n, .inl f0)) => f a cA n f0
  | _ => d
theorem zv_ai_e {ws : va_W} {q0 : Nat} {f : Nat → ClassId → Nat → (Nat → Int32) → Prop} {d G : Prop} (h : zv_ai ws q0 f d) (h1 : ∀ a cA n f0, ws[q0]? = some (a, .inl (cA, n, .inl f0)) → f a cA n f0 → G) (h2 : d → G) : G := by
  unfold zv_ai at h
  split at h
  · exact h1 _ _ _ _ (by assumption) h
  · exact h2 h
def zv_al (ws : va_W) (q0 : Nat) (f : Nat → ClassId → Nat → (Nat → Int64) → Prop) (d : Prop) : Prop := match ws[q0]? with
  | some (a, .inl (cA, n, .inr (.inl f0))) => f a cA n f0
  | _ => d
theorem zv_al_e {ws : va_W} {q0 : Nat} {f : Nat → ClassId → Nat → (Nat → Int64) → Prop} {d G : Prop} (h : zv_al ws q0 f d) (h1 : ∀ a cA n f0, ws[q0]? = some (a, .inl (cA, n, .inr (.inl f0))) → f a cA n f0 → G) (h2 : d → G) : G := by
  unfold zv_al at h
  split at h
  · exact h1 _ _ _ _ (by assumption) h
  · exact h2 h
def zv_an (ws : va_W) (q0 : Nat) (f : Nat → ClassId → Nat → Prop) (d : Prop) : Prop := match ws[q0]? with
  | some (a, .inl (cA, n, _)) => f a cA n
  | _ => d
theorem zv_an_e {ws : va_W} {q0 : Nat} {f : Nat → ClassId → Nat → Prop} {d G : Prop} (h : zv_an ws q0 f d) (h1 : ∀ a cA n y, ws[q0]? = some (a, .inl (cA, n, y)) → f a cA n → G) (h2 : d → G) : G := by
  unfold zv_an at h
  split at h
  · exact h1 _ _ _ _ (by assumption) h
  · exact h2 h
def zv_cz (c : Jvm.ClassFile.Cond) (x : Int32) (T F : Prop) : Prop := match c with
  | .eq => (x = 0 → T) ∧ (¬ x = 0 → F)
  | .ne => (¬ x = 0 → T) ∧ (x = 0 → F)
  | .lt => (x < 0 → T) ∧ (¬ x < 0 → F)
  | .ge => (0 ≤ x → T) ∧ (¬ 0 ≤ x → F)
  | .gt => (0 < x → T) ∧ (¬ 0 < x → F)
  | .le => (x ≤ 0 → T) ∧ (¬ x ≤ 0 → F)
def zv_cc (c : Jvm.ClassFile.Cond) (x y : Int32) (T F : Prop) : Prop := match c with
  | .eq => (x = y → T) ∧ (¬ x = y → F)
  | .ne => (¬ x = y → T) ∧ (x = y → F)
  | .lt => (x < y → T) ∧ (¬ x < y → F)
  | .ge => (y ≤ x → T) ∧ (¬ y ≤ x → F)
  | .gt => (y < x → T) ∧ (¬ y < x → F)
  | .le => (x ≤ y → T) ∧ (¬ x ≤ y → F)

def zv_k2t (k : Nat) : FieldType := bif Nat.beq k 0 then .int else bif Nat.beq k 1 then .long else bif Nat.beq k 2 then .byte else .boolean
def zv_ty (T : u_T) : Nat → FieldType := fun k => (parseFieldDescriptor (T k).2.2.1).getD .int
/-- a field instruction's words: the class is in the list of classes, the field is linked, the class's tables are there -/
def zv_fld (own : String) (Ts : List Jvm.Cond) (cl : List vw_C) (n ci k : Nat) : Bool := match cl[ci]? with
  | some (C, T, N) => decide (k < N) && (decide (Jvm.Cond.fieldLink own n (T k).1 (T k).2.1 (T k).2.2.1 ∈ Ts) && (u_ws C T N).all (fun w => decide (w ∈ Ts)))
  | none => false
theorem zv_fld_e {own : String} {Ts : List Jvm.Cond} {cl : List vw_C} {n ci k : Nat} (h : zv_fld own Ts cl n ci k = true) : ∃ C T N, cl[ci]? = some (C, T, N) ∧ k < N ∧ Jvm.Cond.fieldLink own n (T k).1 (T k).2.1 (T k).2.2.1 ∈ Ts ∧ ∀ w ∈ u_ws C T N, w ∈ Ts := by
  unfold zv_fld at h
  split at h
  · rename_i C T N hc
    simp only [Bool.and_eq_true, decide_eq_true_eq, List.all_eq_true] at h
    exact ⟨C, T, N, hc, h.1, h.2.1, h.2.2⟩
  · cases h
def zv_ref : FieldType → Bool
  | .object _ => true
  | .array _ => true
  | _ => false
def zv_fit (cl : List vw_C) (ci k kd : Nat) : Bool := match cl[ci]? with
  | some (_, T, N) => (!(T k).2.2.2) && ((List.range N).all (fun a => (parseFieldDescriptor (T a).2.2.1).isSome && (List.range N).all (fun b => decide (a = b) || !decide ((T a).2.1 = (T b).2.1))) && (match parseFieldDescriptor (T k).2.2.1 with
    | some .int => Nat.beq kd 0
    | some .long => Nat.beq kd 1
    | some (.object _) => Nat.beq kd 2
    | some (.array _) => Nat.beq kd 2
    | _ => false))
  | none => false
theorem zv_fit_e {cl : List vw_C} {ci k kd : Nat} {C : String} {T : u_T} {N : Nat} {v : Value} (hc : cl[ci]? = some (C, T, N)) (hk : k < N) (h : zv_fit cl ci k kd = true) (hv : zv_kd kd v = true) :
    ∃ ty, (∀ k, k < N → parseFieldDescriptor (T k).2.2.1 = some (zv_ty T k)) ∧ (∀ a, a < N → ∀ b, b < N → a ≠ b → (T a).2.1 ≠ (T b).2.1) ∧ (T k).2.2.2 = false ∧ parseFieldDescriptor (T k).2.2.1 = some ty ∧ narrow ty v = v ∧ fits ty v = true := by
  unfold zv_fit at h
  rw [hc] at h
  simp only [Bool.and_eq_true, List.all_eq_true, List.mem_range, Bool.not_eq_true', Bool.or_eq_true, decide_eq_true_eq, decide_eq_false_iff_not] at h
  obtain ⟨h1, h2, h3⟩ := h
  have hty0 : ∀ k, k < N → parseFieldDescriptor (T k).2.2.1 = some (zv_ty T k) := by
    intro k hk
    have h4 := (h2 k hk).1
    unfold zv_ty
    cases hp : parseFieldDescriptor (T k).2.2.1 with
    | none => rw [hp] at h4; cases h4
    | some t => rfl
  refine ⟨zv_ty T k, hty0, fun a ha b hb hab => ?_, h1, hty0 k hk, ?_⟩
  · rcases (h2 a ha).2 b hb with h5 | h5
    · exact absurd h5 hab
    · exact h5
  · rw [hty0 k hk] at h3
    cases v with
    | int x =>
      have e : kd = 0 := Nat.eq_of_beq_eq_true hv
      subst e
      cases ht : zv_ty T k <;> rw [ht] at h3 <;> first | exact ⟨rfl, rfl⟩ | (simp at h3; done) | cases h3
    | long x =>
      have e : kd = 1 := Nat.eq_of_beq_eq_true hv
      subst e
      cases ht : zv_ty T k <;> rw [ht] at h3 <;> first | exact ⟨rfl, rfl⟩ | (simp at h3; done) | cases h3
    | ref x =>
      have e : kd = 2 := Nat.eq_of_beq_eq_true hv
      subst e
      cases ht : zv_ty T k <;> rw [ht] at h3 <;> first | exact ⟨rfl, rfl⟩ | (simp at h3; done) | cases h3
    | null => cases hv
    | float x => cases hv
    | double x => cases hv
    | retAddr x => cases hv
def zv_ln : Jvm.ClassFile.Instr → Nat
  | .bipush _ => 2 | .sipush _ => 3 | .ldc _ => 2 | .ldc2_w _ => 3
  | .iload _ => 2 | .lload _ => 2 | .aload _ => 2 | .istore _ => 2 | .lstore _ => 2 | .astore _ => 2
  | .iinc _ _ => 3 | .ifCond _ _ => 3 | .if_icmp _ _ => 3 | .goto _ => 3 | .getfield _ => 3 | .putfield _ => 3
  | _ => 1
def zv_xt (nL : Nat) (own : String) (Ts : List Jvm.Cond) (cl : List vw_C) (pc : Nat) (i : Jvm.ClassFile.Instr) (h : zv_H) : Bool := match i with
  | .iconst n => decide (Int32.ofInt n = h.2.2.2.2.1)
  | .bipush n => decide ((Int8.ofInt n).toInt32 = h.2.2.2.2.1)
  | .sipush n => decide ((Int16.ofInt n).toInt32 = h.2.2.2.2.1)
  | .ldc n => decide (Jvm.Cond.constant own n h.2.2.2.2.1 ∈ Ts)
  | .lconst n => decide (Int64.ofNat n.val = h.2.2.2.2.2)
  | .ldc2_w n => decide (Jvm.Cond.constantLong own n h.2.2.2.2.2 ∈ Ts)
  | .istore k => decide (k < nL)
  | .astore k => decide (k < nL)
  | .lstore k => decide (k + 1 < nL)
  | .istore_n k => decide (k.val < nL)
  | .astore_n k => decide (k.val < nL)
  | .lstore_n k => decide (k.val + 1 < nL)
  | .iinc k n => decide (Int32.ofInt n = h.2.2.2.2.1) && decide (k < nL)
  | .ifCond _ off => decide ((pc : Int) + off = (h.1 : Int))
  | .if_icmp _ off => decide ((pc : Int) + off = (h.1 : Int))
  | .goto off => decide ((pc : Int) + off = (h.1 : Int))
  | .getfield n => zv_fld own Ts cl n h.2.1 h.2.2.1
  | .putfield n => zv_fld own Ts cl n h.2.1 h.2.2.1 && zv_fit cl h.2.1 h.2.2.1 h.2.2.2.1
  | .baload => Nat.beq h.2.2.2.1 2 || Nat.beq h.2.2.2.1 3
  | .bastore => Nat.beq h.2.2.2.1 2 || Nat.beq h.2.2.2.1 3
  | _ => true
/-- the instructions that zv_1 steps over: for these the table must be right -/
def zv_sv : Jvm.ClassFile.Instr → Bool
  | .iconst _ => true
  | .bipush _ => true
  | .sipush _ => true
  | .ldc _ => true
  | .lconst _ => true
  | .ldc2_w _ => true
  | .iload _ => true
  | .iload_n _ => true
  | .lload _ => true
  | .lload_n _ => true
  | .aload _ => true
  | .aload_n _ => true
  | .istore _ => true
  | .istore_n _ => true
  | .lstore _ => true
  | .lstore_n _ => true
  | .astore _ => true
  | .astore_n _ => true
  | .iinc _ _ => true
  | .iadd => true
  | .isub => true
  | .imul => true
  | .iand => true
  | .ior => true
  | .ixor => true
  | .ishl => true
  | .ishr => true
  | .idiv => true
  | .irem => true
  | .ladd => true
  | .lsub => true
  | .lmul => true
  | .land => true
  | .lor => true
  | .lxor => true
  | .ldiv => true
  | .lrem => true
  | .lcmp => true
  | .ineg => true
  | .lneg => true
  | .i2l => true
  | .l2i => true
  | .i2b => true
  | .i2s => true
  | .i2c => true
  | .iushr => true
  | .lushr => true
  | .lshl => true
  | .lshr => true
  | .dup => true
  | .pop => true
  | .dup_x1 => true
  | .dup_x2 => true
  | .dup2 => true
  | .dup2_x1 => true
  | .dup2_x2 => true
  | .ifCond _ _ => true
  | .if_icmp _ _ => true
  | .goto _ => true
  | .getfield _ => true
  | .putfield _ => true
  | .iaload => true
  | .laload => true
  | .iastore => true
  | .lastore => true
  | .arraylength => true
  | .baload => true
  | .bastore => true
  | _ => false
def zv_ok (nL : Nat) (cc : ByteArray) (own : String) (Ts : List Jvm.Cond) (cl : List vw_C) (tb : List zv_I) : Bool := tb.all (fun q => !zv_sv q.2.1 || (decide (decode cc q.1 = .ok (q.2.1, zv_ln q.2.1)) && (decide (q.2.2.1 = q.1 + zv_ln q.2.1) && zv_xt nL own Ts cl q.1 q.2.1 q.2.2.2)))
theorem zv_ok_e {nL : Nat} {cc : ByteArray} {own : String} {Ts : List Jvm.Cond} {cl : List vw_C} {tb : List zv_I} (h : zv_ok nL cc own Ts cl tb = true) {pc : Nat} {i : Jvm.ClassFile.Instr} {nx : Nat} {hh : zv_H} (hm : (pc, i, nx, hh) ∈ tb) (hs : zv_sv i = true) : decode cc pc = .ok (i, zv_ln i) ∧ nx = pc + zv_ln i ∧ zv_xt nL own Ts cl pc i hh = true := by
  have h1 := List.all_eq_true.mp h _ hm
  simp only [hs, Bool.not_true, Bool.false_or, Bool.and_eq_true, decide_eq_true_eq] at h1
  exact h1
def zv_1 (tys : List (ClassId × FieldType)) (i : Jvm.ClassFile.Instr) (nx : Nat) (h : zv_H) (leaf : Prop) (go : Nat → zv_L → List Value → va_W → Prop) (lv : zv_L) (st : List Value) (ws : va_W) : Prop := match i with
  | .iconst n => go nx lv (.int h.2.2.2.2.1 :: st) ws
  | .bipush n => go nx lv (.int h.2.2.2.2.1 :: st) ws
  | .sipush n => go nx lv (.int h.2.2.2.2.1 :: st) ws
  | .ldc n => go nx lv (.int h.2.2.2.2.1 :: st) ws
  | .lconst n => go nx lv (.long h.2.2.2.2.2 :: st) ws
  | .ldc2_w n => go nx lv (.long h.2.2.2.2.2 :: st) ws
  | .iload k => zv_li lv k (fun x => go nx lv (.int x :: st) ws) leaf
  | .iload_n k => zv_li lv k.val (fun x => go nx lv (.int x :: st) ws) leaf
  | .lload k => zv_ll lv k (fun x => go nx lv (.long x :: st) ws) leaf
  | .lload_n k => zv_ll lv k.val (fun x => go nx lv (.long x :: st) ws) leaf
  | .aload k => zv_lr lv k (fun x => go nx lv (.ref x :: st) ws) leaf
  | .aload_n k => zv_lr lv k.val (fun x => go nx lv (.ref x :: st) ws) leaf
  | .istore k => zv_s1i st (fun x r => go nx (zv_set (zv_d1 k) k (.int x) lv) r ws) leaf
  | .istore_n k => zv_s1i st (fun x r => go nx (zv_set (zv_d1 k.val) k.val (.int x) lv) r ws) leaf
  | .lstore k => zv_s1l st (fun x r => go nx (zv_set (zv_d2 k) k (.long x) lv) r ws) leaf
  | .lstore_n k => zv_s1l st (fun x r => go nx (zv_set (zv_d2 k.val) k.val (.long x) lv) r ws) leaf
  | .astore k => zv_s1r st (fun x r => go nx (zv_set (zv_d1 k) k (.ref x) lv) r ws) leaf
  | .astore_n k => zv_s1r st (fun x r => go nx (zv_set (zv_d1 k.val) k.val (.ref x) lv) r ws) leaf
  | .iinc k n => zv_li lv k (fun x => go nx (zv_set (zv_d1 k) k (.int (x + h.2.2.2.2.1)) lv) st ws) leaf
  | .iadd => zv_s2i st (fun x y r => go nx lv (.int (x + y) :: r) ws) leaf
  | .isub => zv_s2i st (fun x y r => go nx lv (.int (x - y) :: r) ws) leaf
  | .imul => zv_s2i st (fun x y r => go nx lv (.int (x * y) :: r) ws) leaf
  | .iand => zv_s2i st (fun x y r => go nx lv (.int (x &&& y) :: r) ws) leaf
  | .ior => zv_s2i st (fun x y r => go nx lv (.int (x ||| y) :: r) ws) leaf
  | .ixor => zv_s2i st (fun x y r => go nx lv (.int (x ^^^ y) :: r) ws) leaf
  | .ishl => zv_s2i st (fun x y r => go nx lv (.int (x <<< (y &&& 31)) :: r) ws) leaf
  | .ishr => zv_s2i st (fun x y r => go nx lv (.int (x >>> (y &&& 31)) :: r) ws) leaf
  | .idiv => zv_s2i st (fun x y r => ¬ y = 0 ∧ go nx lv (.int (x / y) :: r) ws) leaf
  | .irem => zv_s2i st (fun x y r => ¬ y = 0 ∧ go nx lv (.int (x - x / y * y) :: r) ws) leaf
  | .ladd => zv_s2l st (fun x y r => go nx lv (.long (x + y) :: r) ws) leaf
  | .lsub => zv_s2l st (fun x y r => go nx lv (.long (x - y) :: r) ws) leaf
  | .lmul => zv_s2l st (fun x y r => go nx lv (.long (x * y) :: r) ws) leaf
  | .land => zv_s2l st (fun x y r => go nx lv (.long (x &&& y) :: r) ws) leaf
  | .lor => zv_s2l st (fun x y r => go nx lv (.long (x ||| y) :: r) ws) leaf
  | .lxor => zv_s2l st (fun x y r => go nx lv (.long (x ^^^ y) :: r) ws) leaf
  | .ldiv => zv_s2l st (fun x y r => ¬ y = 0 ∧ go nx lv (.long (x / y) :: r) ws) leaf
  | .lrem => zv_s2l st (fun x y r => ¬ y = 0 ∧ go nx lv (.long (x - x / y * y) :: r) ws) leaf
  | .lcmp => zv_s2l st (fun x y r => go nx lv (.int (lg_cmp x y) :: r) ws) leaf
  | .ineg => zv_s1i st (fun x r => go nx lv (.int (-x) :: r) ws) leaf
  | .lneg => zv_s1l st (fun x r => go nx lv (.long (-x) :: r) ws) leaf
  | .i2l => zv_s1i st (fun x r => go nx lv (.long x.toInt64 :: r) ws) leaf
  | .l2i => zv_s1l st (fun x r => go nx lv (.int x.toInt32 :: r) ws) leaf
  | .i2b => zv_s1i st (fun x r => go nx lv (.int x.toInt8.toInt32 :: r) ws) leaf
  | .i2s => zv_s1i st (fun x r => go nx lv (.int x.toInt16.toInt32 :: r) ws) leaf
  | .i2c => zv_s1i st (fun x r => go nx lv (.int (x.toUInt32 % 65536).toInt32 :: r) ws) leaf
  | .iushr => zv_s2i st (fun x y r => go nx lv (.int (x.toUInt32 >>> (y.toUInt32 &&& Int32.toUInt32 31)).toInt32 :: r) ws) leaf
  | .lushr => zv_sli st (fun x y r => go nx lv (.long (x.toUInt64 >>> (y.toInt64.toUInt64 &&& Int64.toUInt64 63)).toInt64 :: r) ws) leaf
  | .lshl => zv_sli st (fun x y r => go nx lv (.long (x <<< (y.toInt64 &&& 63)) :: r) ws) leaf
  | .lshr => zv_sli st (fun x y r => go nx lv (.long (x >>> (y.toInt64 &&& 63)) :: r) ws) leaf
  | .dup => zv_s1v st (fun v r => bif zv_c2 v then leaf else go nx lv (v :: v :: r) ws) leaf
  | .pop => zv_s1v st (fun v r => bif zv_c2 v then leaf else go nx lv r ws) leaf
  | .dup_x1 => zv_s2v st (fun v w r => bif zv_c2 v || zv_c2 w then leaf else go nx lv (v :: w :: v :: r) ws) leaf
  | .dup_x2 => zv_s3v st (fun v w z r => bif zv_c2 v || (zv_c2 w || zv_c2 z) then leaf else go nx lv (v :: w :: z :: v :: r) ws) leaf
  | .dup2 => zv_s1v st (fun v r => bif zv_c2 v then go nx lv (v :: v :: r) ws else zv_s1v r (fun w r => bif zv_c2 w then leaf else go nx lv (v :: w :: v :: w :: r) ws) leaf) leaf
  | .dup2_x1 => zv_s2v st (fun v w r => bif zv_c2 v && !zv_c2 w then go nx lv (v :: w :: v :: r) ws else leaf) leaf
  | .dup2_x2 => zv_s3v st (fun v w z r => bif zv_c2 v && (!zv_c2 w && !zv_c2 z) then go nx lv (v :: w :: z :: v :: r) ws else leaf) leaf
  | .ifCond c off => zv_s1i st (fun x r => zv_cz c x (go h.1 lv r ws) (go nx lv r ws)) leaf
  | .if_icmp c off => zv_s2i st (fun x y r => zv_cc c x y (go h.1 lv r ws) (go nx lv r ws)) leaf
  | .goto off => go h.1 lv st ws
  | .getfield n => zv_s1r st (fun a r => zv_ob ws h.1 h.2.1 h.2.2.1 (fun a1 v => a = a1 ∧ go nx lv (v :: r) ws) leaf) leaf
  | .putfield n => zv_svr st (fun v a r => zv_pb ws h.1 h.2.1 h.2.2.1 h.2.2.2.1 v (fun a1 ws1 => a = a1 ∧ go nx lv r ws1) leaf) leaf
  | .iaload => zv_sir st (fun a i r => zv_ai ws h.1 (fun a1 cA n f => (a = a1 ∧ tys[h.2.1]? = some (cA, .int)) ∧ vp_in i n ∧ go nx lv (.int (f i.toNatClampNeg) :: r) ws) leaf) leaf
  | .laload => zv_sir st (fun a i r => zv_al ws h.1 (fun a1 cA n f => (a = a1 ∧ tys[h.2.1]? = some (cA, .long)) ∧ vp_in i n ∧ go nx lv (.long (f i.toNatClampNeg) :: r) ws) leaf) leaf
  | .iastore => zv_siir st (fun a i x r => zv_ai ws h.1 (fun a1 cA n f => (a = a1 ∧ tys[h.2.1]? = some (cA, .int)) ∧ vp_in i n ∧ go nx lv r (ws.set h.1 (a1, .inl (cA, n, .inl (upd f i.toNatClampNeg x))))) leaf) leaf
  | .lastore => zv_slir st (fun a i x r => zv_al ws h.1 (fun a1 cA n f => (a = a1 ∧ tys[h.2.1]? = some (cA, .long)) ∧ vp_in i n ∧ go nx lv r (ws.set h.1 (a1, .inl (cA, n, .inr (.inl (vp_updL f i.toNatClampNeg x)))))) leaf) leaf
  | .arraylength => zv_s1r st (fun a r => zv_an ws h.1 (fun a1 cA n => (a = a1 ∧ tys[h.2.1]? = some (cA, zv_k2t h.2.2.2.1)) ∧ go nx lv (.int (nI n) :: r) ws) leaf) leaf
  | .baload => zv_sir st (fun a i r => zv_ai ws h.1 (fun a1 cA n f => (a = a1 ∧ tys[h.2.1]? = some (cA, zv_k2t h.2.2.2.1)) ∧ vp_in i n ∧ go nx lv (.int (f i.toNatClampNeg) :: r) ws) leaf) leaf
  | .bastore => zv_siir st (fun a i x r => zv_ai ws h.1 (fun a1 cA n f => (a = a1 ∧ tys[h.2.1]? = some (cA, zv_k2t h.2.2.2.1)) ∧ vp_in i n ∧ go nx lv r (ws.set h.1 (a1, .inl (cA, n, .inl (upd f i.toNatClampNeg (vp_nar (zv_k2t h.2.2.2.1) x)))))) leaf) leaf
  | _ => leaf
set_option maxHeartbeats 4000000 in
theorem zv_1_ok {x : zv_X} {l : Launch} {R : Room} {D : va_G} {cl : List vw_C} {tys : List (ClassId × FieldType)} {nL : Nat} {cc : ByteArray} {own : String} {Ts : List Jvm.Cond} (C : zv_C x (l, R, D, cl, tys, nL, cc, own, Ts)) {pc : Nat} {i : Jvm.ClassFile.Instr} {nx : Nat} {h : zv_H} {leaf : Prop} {go : Nat → zv_L → List Value → va_W → Prop} {lv : zv_L} {st : List Value} {ws : va_W} {ce sl : Nat}
    (hok : zv_sv i = true → decode cc pc = .ok (i, zv_ln i) ∧ nx = pc + zv_ln i ∧ zv_xt nL own Ts cl pc i h = true) (hgo : ∀ pc' lv' st' ws', go pc' lv' st' ws' → zv_V x (l, R, D, cl, tys, nL, cc, own, Ts) pc' lv' st' ws' ce sl)
    (hleaf : leaf → zv_V x (l, R, D, cl, tys, nL, cc, own, Ts) pc lv st ws ce sl) (hz : zv_1 tys i nx h leaf go lv st ws) : zv_V x (l, R, D, cl, tys, nL, cc, own, Ts) pc lv st ws ce sl := by
  obtain ⟨p, e, s, m, args, below, meth, c, A, Q⟩ := x
  obtain ⟨hx, hb, hml, hown, hts, hK, hA, hE⟩ := C
  cases i with
  | iconst n =>
    have hok := hok rfl
    have z0 := hz
    clear hz
    dsimp only [zv_1] at z0
    obtain ⟨hd, rfl, hv⟩ := hok
    intro H locs ls hP hD hS hl
    exact lv_iconst hx hb hd (of_decide_eq_true hv) (hgo _ _ _ _ z0 H locs ls hP hD hS hl)
  | bipush n =>
    have hok := hok rfl
    have z0 := hz
    clear hz
    dsimp only [zv_1] at z0
    obtain ⟨hd, rfl, hv⟩ := hok
    intro H locs ls hP hD hS hl
    exact lv_bipush hx hb hd (of_decide_eq_true hv) (hgo _ _ _ _ z0 H locs ls hP hD hS hl)
  | sipush n =>
    have hok := hok rfl
    have z0 := hz
    clear hz
    dsimp only [zv_1] at z0
    obtain ⟨hd, rfl, hv⟩ := hok
    intro H locs ls hP hD hS hl
    exact lv_sipush hx hb hd (of_decide_eq_true hv) (hgo _ _ _ _ z0 H locs ls hP hD hS hl)
  | ldc n =>
    have hok := hok rfl
    have z0 := hz
    clear hz
    dsimp only [zv_1] at z0
    obtain ⟨hd, rfl, hv⟩ := hok
    intro H locs ls hP hD hS hl
    exact lv_ldc hx hb hown (hts _ (of_decide_eq_true hv)) hd (hgo _ _ _ _ z0 H locs ls hP hD hS hl)
  | lconst n =>
    have hok := hok rfl
    have z0 := hz
    clear hz
    dsimp only [zv_1] at z0
    obtain ⟨hd, rfl, hv⟩ := hok
    intro H locs ls hP hD hS hl
    exact lv_lconst hx hb hd (of_decide_eq_true hv) (hgo _ _ _ _ z0 H locs ls hP hD hS hl)
  | ldc2_w n =>
    have hok := hok rfl
    have z0 := hz
    clear hz
    dsimp only [zv_1] at z0
    obtain ⟨hd, rfl, hv⟩ := hok
    intro H locs ls hP hD hS hl
    exact lv_ldc2 hx hb hown (hts _ (of_decide_eq_true hv)) hd (hgo _ _ _ _ z0 H locs ls hP hD hS hl)
  | iload k =>
    have hok := hok rfl
    have z0 := hz
    clear hz
    dsimp only [zv_1] at z0
    obtain ⟨hd, rfl, -⟩ := hok
    refine zv_li_e z0 (fun x hm z1 => ?_) hleaf
    intro H locs ls hP hD hS hl
    exact lv_iload hx hb hd (hl.2.2 _ hm) (hgo _ _ _ _ z1 H locs ls hP hD hS hl)
  | iload_n k =>
    have hok := hok rfl
    have z0 := hz
    clear hz
    dsimp only [zv_1] at z0
    obtain ⟨hd, rfl, -⟩ := hok
    refine zv_li_e z0 (fun x hm z1 => ?_) hleaf
    intro H locs ls hP hD hS hl
    exact lv_iload_n hx hb hd rfl (hl.2.2 _ hm) (hgo _ _ _ _ z1 H locs ls hP hD hS hl)
  | lload k =>
    have hok := hok rfl
    have z0 := hz
    clear hz
    dsimp only [zv_1] at z0
    obtain ⟨hd, rfl, -⟩ := hok
    refine zv_ll_e z0 (fun x hm z1 => ?_) hleaf
    intro H locs ls hP hD hS hl
    exact lv_lload hx hb hd (hl.2.2 _ hm) (hgo _ _ _ _ z1 H locs ls hP hD hS hl)
  | lload_n k =>
    have hok := hok rfl
    have z0 := hz
    clear hz
    dsimp only [zv_1] at z0
    obtain ⟨hd, rfl, -⟩ := hok
    refine zv_ll_e z0 (fun x hm z1 => ?_) hleaf
    intro H locs ls hP hD hS hl
    exact lv_lload_n hx hb hd rfl (hl.2.2 _ hm) (hgo _ _ _ _ z1 H locs ls hP hD hS hl)
  | aload k =>
    have hok := hok rfl
    have z0 := hz
    clear hz
    dsimp only [zv_1] at z0
    obtain ⟨hd, rfl, -⟩ := hok
    refine zv_lr_e z0 (fun x hm z1 => ?_) hleaf
    intro H locs ls hP hD hS hl
    exact lv_aload hx hb hd (hl.2.2 _ hm) (hgo _ _ _ _ z1 H locs ls hP hD hS hl)
  | aload_n k =>
    have hok := hok rfl
    have z0 := hz
    clear hz
    dsimp only [zv_1] at z0
    obtain ⟨hd, rfl, -⟩ := hok
    refine zv_lr_e z0 (fun x hm z1 => ?_) hleaf
    intro H locs ls hP hD hS hl
    exact lv_aload_n hx hb hd rfl (hl.2.2 _ hm) (hgo _ _ _ _ z1 H locs ls hP hD hS hl)
  | istore k =>
    have hok := hok rfl
    have z0 := hz
    clear hz
    dsimp only [zv_1] at z0
    obtain ⟨hd, rfl, hv⟩ := hok
    refine zv_s1i_e z0 (fun x r e z1 => ?_) hleaf
    subst e
    intro H locs ls hP hD hS hl
    exact lv_istore hx hb hd hl (of_decide_eq_true hv) rfl (fun ls hl => hgo _ _ _ _ z1 H locs ls hP hD hS (zv_has1 hl))
  | istore_n k =>
    have hok := hok rfl
    have z0 := hz
    clear hz
    dsimp only [zv_1] at z0
    obtain ⟨hd, rfl, hv⟩ := hok
    refine zv_s1i_e z0 (fun x r e z1 => ?_) hleaf
    subst e
    intro H locs ls hP hD hS hl
    exact lv_istore_n hx hb hd rfl hl (of_decide_eq_true hv) rfl (fun ls hl => hgo _ _ _ _ z1 H locs ls hP hD hS (zv_has1 hl))
  | lstore k =>
    have hok := hok rfl
    have z0 := hz
    clear hz
    dsimp only [zv_1] at z0
    obtain ⟨hd, rfl, hv⟩ := hok
    refine zv_s1l_e z0 (fun x r e z1 => ?_) hleaf
    subst e
    intro H locs ls hP hD hS hl
    exact lv_lstore hx hb hd hl (of_decide_eq_true hv) rfl (fun ls hl => hgo _ _ _ _ z1 H locs ls hP hD hS (zv_has2 hl))
  | lstore_n k =>
    have hok := hok rfl
    have z0 := hz
    clear hz
    dsimp only [zv_1] at z0
    obtain ⟨hd, rfl, hv⟩ := hok
    refine zv_s1l_e z0 (fun x r e z1 => ?_) hleaf
    subst e
    intro H locs ls hP hD hS hl
    exact lv_lstore_n hx hb hd rfl hl (of_decide_eq_true hv) rfl (fun ls hl => hgo _ _ _ _ z1 H locs ls hP hD hS (zv_has2 hl))
  | astore k =>
    have hok := hok rfl
    have z0 := hz
    clear hz
    dsimp only [zv_1] at z0
    obtain ⟨hd, rfl, hv⟩ := hok
    refine zv_s1r_e z0 (fun x r e z1 => ?_) hleaf
    subst e
    intro H locs ls hP hD hS hl
    exact lv_astore hx hb hd hl (of_decide_eq_true hv) rfl (fun ls hl => hgo _ _ _ _ z1 H locs ls hP hD hS (zv_has1 hl))
  | astore_n k =>
    have hok := hok rfl
    have z0 := hz
    clear hz
    dsimp only [zv_1] at z0
    obtain ⟨hd, rfl, hv⟩ := hok
    refine zv_s1r_e z0 (fun x r e z1 => ?_) hleaf
    subst e
    intro H locs ls hP hD hS hl
    exact lv_astore_n hx hb hd rfl hl (of_decide_eq_true hv) rfl (fun ls hl => hgo _ _ _ _ z1 H locs ls hP hD hS (zv_has1 hl))
  | iinc k n =>
    have hok := hok rfl
    have z0 := hz
    clear hz
    dsimp only [zv_1] at z0
    obtain ⟨hd, rfl, hv⟩ := hok
    refine zv_li_e z0 (fun x hm z1 => ?_) hleaf
    obtain ⟨hv1, hv2⟩ := Bool.and_eq_true_iff.mp hv
    have hv := And.intro (of_decide_eq_true hv1) (of_decide_eq_true hv2)
    obtain ⟨i0, hi0⟩ := List.getElem?_of_mem hm
    intro H locs ls hP hD hS hl
    exact lv_iinc hx hb hd hl hi0 (by rw [hv.1]) hv.2 rfl (fun ls hl => hgo _ _ _ _ z1 H locs ls hP hD hS (zv_has1 hl))
  | iadd =>
    have hok := hok rfl
    have z0 := hz
    clear hz
    dsimp only [zv_1] at z0
    obtain ⟨hd, rfl, -⟩ := hok
    refine zv_s2i_e z0 (fun x y r e z1 => ?_) hleaf
    subst e
    intro H locs ls hP hD hS hl
    exact lv_iadd hx hb hd (hgo _ _ _ _ z1 H locs ls hP hD hS hl)
  | isub =>
    have hok := hok rfl
    have z0 := hz
    clear hz
    dsimp only [zv_1] at z0
    obtain ⟨hd, rfl, -⟩ := hok
    refine zv_s2i_e z0 (fun x y r e z1 => ?_) hleaf
    subst e
    intro H locs ls hP hD hS hl
    exact lv_isub hx hb hd (hgo _ _ _ _ z1 H locs ls hP hD hS hl)
  | imul =>
    have hok := hok rfl
    have z0 := hz
    clear hz
    dsimp only [zv_1] at z0
    obtain ⟨hd, rfl, -⟩ := hok
    refine zv_s2i_e z0 (fun x y r e z1 => ?_) hleaf
    subst e
    intro H locs ls hP hD hS hl
    exact lv_imul hx hb hd (hgo _ _ _ _ z1 H locs ls hP hD hS hl)
  | iand =>
    have hok := hok rfl
    have z0 := hz
    clear hz
    dsimp only [zv_1] at z0
    obtain ⟨hd, rfl, -⟩ := hok
    refine zv_s2i_e z0 (fun x y r e z1 => ?_) hleaf
    subst e
    intro H locs ls hP hD hS hl
    exact lv_iand hx hb hd (hgo _ _ _ _ z1 H locs ls hP hD hS hl)
  | ior =>
    have hok := hok rfl
    have z0 := hz
    clear hz
    dsimp only [zv_1] at z0
    obtain ⟨hd, rfl, -⟩ := hok
    refine zv_s2i_e z0 (fun x y r e z1 => ?_) hleaf
    subst e
    intro H locs ls hP hD hS hl
    exact lv_ior hx hb hd (hgo _ _ _ _ z1 H locs ls hP hD hS hl)
  | ixor =>
    have hok := hok rfl
    have z0 := hz
    clear hz
    dsimp only [zv_1] at z0
    obtain ⟨hd, rfl, -⟩ := hok
    refine zv_s2i_e z0 (fun x y r e z1 => ?_) hleaf
    subst e
    intro H locs ls hP hD hS hl
    exact lv_ixor hx hb hd (hgo _ _ _ _ z1 H locs ls hP hD hS hl)
  | ishl =>
    have hok := hok rfl
    have z0 := hz
    clear hz
    dsimp only [zv_1] at z0
    obtain ⟨hd, rfl, -⟩ := hok
    refine zv_s2i_e z0 (fun x y r e z1 => ?_) hleaf
    subst e
    intro H locs ls hP hD hS hl
    exact lv_ishl hx hb hd (hgo _ _ _ _ z1 H locs ls hP hD hS hl)
  | ishr =>
    have hok := hok rfl
    have z0 := hz
    clear hz
    dsimp only [zv_1] at z0
    obtain ⟨hd, rfl, -⟩ := hok
    refine zv_s2i_e z0 (fun x y r e z1 => ?_) hleaf
    subst e
    intro H locs ls hP hD hS hl
    exact lv_ishr hx hb hd (hgo _ _ _ _ z1 H locs ls hP hD hS hl)
  | idiv =>
    have hok := hok rfl
    have z0 := hz
    clear hz
    dsimp only [zv_1] at z0
    obtain ⟨hd, rfl, -⟩ := hok
    refine zv_s2i_e z0 (fun x y r e z1 => ?_) hleaf
    subst e
    intro H locs ls hP hD hS hl
    exact lv_idiv hx hb hd z1.1 (hgo _ _ _ _ z1.2 H locs ls hP hD hS hl)
  | irem =>
    have hok := hok rfl
    have z0 := hz
    clear hz
    dsimp only [zv_1] at z0
    obtain ⟨hd, rfl, -⟩ := hok
    refine zv_s2i_e z0 (fun x y r e z1 => ?_) hleaf
    subst e
    intro H locs ls hP hD hS hl
    exact lv_irem hx hb hd z1.1 (hgo _ _ _ _ z1.2 H locs ls hP hD hS hl)
  | ladd =>
    have hok := hok rfl
    have z0 := hz
    clear hz
    dsimp only [zv_1] at z0
    obtain ⟨hd, rfl, -⟩ := hok
    refine zv_s2l_e z0 (fun x y r e z1 => ?_) hleaf
    subst e
    intro H locs ls hP hD hS hl
    exact lv_ladd hx hb hd (hgo _ _ _ _ z1 H locs ls hP hD hS hl)
  | lsub =>
    have hok := hok rfl
    have z0 := hz
    clear hz
    dsimp only [zv_1] at z0
    obtain ⟨hd, rfl, -⟩ := hok
    refine zv_s2l_e z0 (fun x y r e z1 => ?_) hleaf
    subst e
    intro H locs ls hP hD hS hl
    exact lv_lsub hx hb hd (hgo _ _ _ _ z1 H locs ls hP hD hS hl)
  | lmul =>
    have hok := hok rfl
    have z0 := hz
    clear hz
    dsimp only [zv_1] at z0
    obtain ⟨hd, rfl, -⟩ := hok
    refine zv_s2l_e z0 (fun x y r e z1 => ?_) hleaf
    subst e
    intro H locs ls hP hD hS hl
    exact lv_lmul hx hb hd (hgo _ _ _ _ z1 H locs ls hP hD hS hl)
  | land =>
    have hok := hok rfl
    have z0 := hz
    clear hz
    dsimp only [zv_1] at z0
    obtain ⟨hd, rfl, -⟩ := hok
    refine zv_s2l_e z0 (fun x y r e z1 => ?_) hleaf
    subst e
    intro H locs ls hP hD hS hl
    exact lv_land hx hb hd (hgo _ _ _ _ z1 H locs ls hP hD hS hl)
  | lor =>
    have hok := hok rfl
    have z0 := hz
    clear hz
    dsimp only [zv_1] at z0
    obtain ⟨hd, rfl, -⟩ := hok
    refine zv_s2l_e z0 (fun x y r e z1 => ?_) hleaf
    subst e
    intro H locs ls hP hD hS hl
    exact lv_lor hx hb hd (hgo _ _ _ _ z1 H locs ls hP hD hS hl)
  | lxor =>
    have hok := hok rfl
    have z0 := hz
    clear hz
    dsimp only [zv_1] at z0
    obtain ⟨hd, rfl, -⟩ := hok
    refine zv_s2l_e z0 (fun x y r e z1 => ?_) hleaf
    subst e
    intro H locs ls hP hD hS hl
    exact lv_lxor hx hb hd (hgo _ _ _ _ z1 H locs ls hP hD hS hl)
  | ldiv =>
    have hok := hok rfl
    have z0 := hz
    clear hz
    dsimp only [zv_1] at z0
    obtain ⟨hd, rfl, -⟩ := hok
    refine zv_s2l_e z0 (fun x y r e z1 => ?_) hleaf
    subst e
    intro H locs ls hP hD hS hl
    exact lv_ldiv hx hb hd z1.1 (hgo _ _ _ _ z1.2 H locs ls hP hD hS hl)
  | lrem =>
    have hok := hok rfl
    have z0 := hz
    clear hz
    dsimp only [zv_1] at z0
    obtain ⟨hd, rfl, -⟩ := hok
    refine zv_s2l_e z0 (fun x y r e z1 => ?_) hleaf
    subst e
    intro H locs ls hP hD hS hl
    exact lv_lrem hx hb hd z1.1 (hgo _ _ _ _ z1.2 H locs ls hP hD hS hl)
  | lcmp =>
    have hok := hok rfl
    have z0 := hz
    clear hz
    dsimp only [zv_1] at z0
    obtain ⟨hd, rfl, -⟩ := hok
    refine zv_s2l_e z0 (fun x y r e z1 => ?_) hleaf
    subst e
    intro H locs ls hP hD hS hl
    exact W.lcmp hx hb hd (hgo _ _ _ _ z1 H locs ls hP hD hS hl)
  | ineg =>
    have hok := hok rfl
    have z0 := hz
    clear hz
    dsimp only [zv_1] at z0
    obtain ⟨hd, rfl, -⟩ := hok
    refine zv_s1i_e z0 (fun x r e z1 => ?_) hleaf
    subst e
    intro H locs ls hP hD hS hl
    exact lv_ineg hx hb hd (hgo _ _ _ _ z1 H locs ls hP hD hS hl)
  | lneg =>
    have hok := hok rfl
    have z0 := hz
    clear hz
    dsimp only [zv_1] at z0
    obtain ⟨hd, rfl, -⟩ := hok
    refine zv_s1l_e z0 (fun x r e z1 => ?_) hleaf
    subst e
    intro H locs ls hP hD hS hl
    exact lv_lneg hx hb hd (hgo _ _ _ _ z1 H locs ls hP hD hS hl)
  | i2l =>
    have hok := hok rfl
    have z0 := hz
    clear hz
    dsimp only [zv_1] at z0
    obtain ⟨hd, rfl, -⟩ := hok
    refine zv_s1i_e z0 (fun x r e z1 => ?_) hleaf
    subst e
    intro H locs ls hP hD hS hl
    exact lv_i2l hx hb hd rfl (hgo _ _ _ _ z1 H locs ls hP hD hS hl)
  | l2i =>
    have hok := hok rfl
    have z0 := hz
    clear hz
    dsimp only [zv_1] at z0
    obtain ⟨hd, rfl, -⟩ := hok
    refine zv_s1l_e z0 (fun x r e z1 => ?_) hleaf
    subst e
    intro H locs ls hP hD hS hl
    exact lv_l2i hx hb hd rfl (hgo _ _ _ _ z1 H locs ls hP hD hS hl)
  | i2b =>
    have hok := hok rfl
    have z0 := hz
    clear hz
    dsimp only [zv_1] at z0
    obtain ⟨hd, rfl, -⟩ := hok
    refine zv_s1i_e z0 (fun x r e z1 => ?_) hleaf
    subst e
    intro H locs ls hP hD hS hl
    exact lv_i2b hx hb hd rfl (hgo _ _ _ _ z1 H locs ls hP hD hS hl)
  | i2s =>
    have hok := hok rfl
    have z0 := hz
    clear hz
    dsimp only [zv_1] at z0
    obtain ⟨hd, rfl, -⟩ := hok
    refine zv_s1i_e z0 (fun x r e z1 => ?_) hleaf
    subst e
    intro H locs ls hP hD hS hl
    exact lv_i2s hx hb hd rfl (hgo _ _ _ _ z1 H locs ls hP hD hS hl)
  | i2c =>
    have hok := hok rfl
    have z0 := hz
    clear hz
    dsimp only [zv_1] at z0
    obtain ⟨hd, rfl, -⟩ := hok
    refine zv_s1i_e z0 (fun x r e z1 => ?_) hleaf
    subst e
    intro H locs ls hP hD hS hl
    exact lv_i2c hx hb hd rfl (hgo _ _ _ _ z1 H locs ls hP hD hS hl)
  | iushr =>
    have hok := hok rfl
    have z0 := hz
    clear hz
    dsimp only [zv_1] at z0
    obtain ⟨hd, rfl, -⟩ := hok
    refine zv_s2i_e z0 (fun x y r e z1 => ?_) hleaf
    subst e
    intro H locs ls hP hD hS hl
    exact lv_iushr hx hb hd rfl (hgo _ _ _ _ z1 H locs ls hP hD hS hl)
  | lushr =>
    have hok := hok rfl
    have z0 := hz
    clear hz
    dsimp only [zv_1] at z0
    obtain ⟨hd, rfl, -⟩ := hok
    refine zv_sli_e z0 (fun x y r e z1 => ?_) hleaf
    subst e
    intro H locs ls hP hD hS hl
    exact lv_lushr hx hb hd rfl (hgo _ _ _ _ z1 H locs ls hP hD hS hl)
  | lshl =>
    have hok := hok rfl
    have z0 := hz
    clear hz
    dsimp only [zv_1] at z0
    obtain ⟨hd, rfl, -⟩ := hok
    refine zv_sli_e z0 (fun x y r e z1 => ?_) hleaf
    subst e
    intro H locs ls hP hD hS hl
    exact lv_lshl hx hb hd rfl (hgo _ _ _ _ z1 H locs ls hP hD hS hl)
  | lshr =>
    have hok := hok rfl
    have z0 := hz
    clear hz
    dsimp only [zv_1] at z0
    obtain ⟨hd, rfl, -⟩ := hok
    refine zv_sli_e z0 (fun x y r e z1 => ?_) hleaf
    subst e
    intro H locs ls hP hD hS hl
    exact lv_lshr hx hb hd rfl (hgo _ _ _ _ z1 H locs ls hP hD hS hl)
  | dup =>
    have hok := hok rfl
    have z0 := hz
    clear hz
    dsimp only [zv_1] at z0
    obtain ⟨hd, rfl, -⟩ := hok
    refine zv_s1v_e z0 (fun v r e z1 => ?_) hleaf
    cases hv : zv_c2 v with
    | true => rw [hv] at z1; exact hleaf z1
    | false =>
      rw [hv] at z1
      subst e
      intro H locs ls hP hD hS hl
      exact lv_dup hx hb hd (zv_c1_eq hv) (hgo _ _ _ _ z1 H locs ls hP hD hS hl)
  | pop =>
    have hok := hok rfl
    have z0 := hz
    clear hz
    dsimp only [zv_1] at z0
    obtain ⟨hd, rfl, -⟩ := hok
    refine zv_s1v_e z0 (fun v r e z1 => ?_) hleaf
    cases hv : zv_c2 v with
    | true => rw [hv] at z1; exact hleaf z1
    | false =>
      rw [hv] at z1
      subst e
      intro H locs ls hP hD hS hl
      exact lv_pop hx hb hd (zv_c1_eq hv) (hgo _ _ _ _ z1 H locs ls hP hD hS hl)
  | dup_x1 =>
    have hok := hok rfl
    have z0 := hz
    clear hz
    dsimp only [zv_1] at z0
    obtain ⟨hd, rfl, -⟩ := hok
    refine zv_s2v_e z0 (fun v w r e z1 => ?_) hleaf
    cases hv : (zv_c2 v || zv_c2 w) with
    | true => rw [hv] at z1; exact hleaf z1
    | false =>
      rw [hv] at z1
      rw [Bool.or_eq_false_iff] at hv
      subst e
      intro H locs ls hP hD hS hl
      exact lv_dup_x1 hx hb hd (zv_c1_eq hv.1) (zv_c1_eq hv.2) (hgo _ _ _ _ z1 H locs ls hP hD hS hl)
  | dup_x2 =>
    have hok := hok rfl
    have z0 := hz
    clear hz
    dsimp only [zv_1] at z0
    obtain ⟨hd, rfl, -⟩ := hok
    refine zv_s3v_e z0 (fun v w z r e z1 => ?_) hleaf
    cases hv : (zv_c2 v || (zv_c2 w || zv_c2 z)) with
    | true => rw [hv] at z1; exact hleaf z1
    | false =>
      rw [hv] at z1
      rw [Bool.or_eq_false_iff, Bool.or_eq_false_iff] at hv
      subst e
      intro H locs ls hP hD hS hl
      exact lv_dup_x2 hx hb hd (zv_c1_eq hv.1) (zv_c1_eq hv.2.1) (zv_c1_eq hv.2.2) (hgo _ _ _ _ z1 H locs ls hP hD hS hl)
  | dup2 =>
    have hok := hok rfl
    have z0 := hz
    clear hz
    dsimp only [zv_1] at z0
    obtain ⟨hd, rfl, -⟩ := hok
    refine zv_s1v_e z0 (fun v r e z1 => ?_) hleaf
    cases hv : zv_c2 v with
    | true =>
      rw [hv] at z1
      subst e
      intro H locs ls hP hD hS hl
      exact lv_dup2_2 hx hb hd (zv_c2_of hv) (hgo _ _ _ _ z1 H locs ls hP hD hS hl)
    | false =>
      rw [hv] at z1
      refine zv_s1v_e z1 (fun w r2 e2 z2 => ?_) hleaf
      cases hw : zv_c2 w with
      | true => rw [hw] at z2; exact hleaf z2
      | false =>
        rw [hw] at z2
        subst e2
        subst e
        intro H locs ls hP hD hS hl
        exact lv_dup2_11 hx hb hd (zv_c1_eq hv) (zv_c1_eq hw) (hgo _ _ _ _ z2 H locs ls hP hD hS hl)
  | dup2_x1 =>
    have hok := hok rfl
    have z0 := hz
    clear hz
    dsimp only [zv_1] at z0
    obtain ⟨hd, rfl, -⟩ := hok
    refine zv_s2v_e z0 (fun v w r e z1 => ?_) hleaf
    cases hv : (zv_c2 v && !zv_c2 w) with
    | false => rw [hv] at z1; exact hleaf z1
    | true =>
      rw [hv] at z1
      simp only [Bool.and_eq_true, Bool.not_eq_true'] at hv
      subst e
      intro H locs ls hP hD hS hl
      exact lv_dup2_x1_2 hx hb hd (zv_c2_of hv.1) (zv_c1_eq hv.2) (hgo _ _ _ _ z1 H locs ls hP hD hS hl)
  | dup2_x2 =>
    have hok := hok rfl
    have z0 := hz
    clear hz
    dsimp only [zv_1] at z0
    obtain ⟨hd, rfl, -⟩ := hok
    refine zv_s3v_e z0 (fun v w z r e z1 => ?_) hleaf
    cases hv : (zv_c2 v && (!zv_c2 w && !zv_c2 z)) with
    | false => rw [hv] at z1; exact hleaf z1
    | true =>
      rw [hv] at z1
      simp only [Bool.and_eq_true, Bool.not_eq_true'] at hv
      subst e
      intro H locs ls hP hD hS hl
      exact lv_dup2_x2_2 hx hb hd (zv_c2_of hv.1) (zv_c1_eq hv.2.1) (zv_c1_eq hv.2.2) (hgo _ _ _ _ z1 H locs ls hP hD hS hl)
  | ifCond c off =>
    have hok := hok rfl
    have z0 := hz
    clear hz
    dsimp only [zv_1] at z0
    obtain ⟨hd, rfl, hv⟩ := hok
    refine zv_s1i_e z0 (fun x r e z1 => ?_) hleaf
    have hv2 : (pc : Int) + off = (h.1 : Int) := of_decide_eq_true hv
    subst e
    intro H locs ls hP hD hS hl
    cases c with
    | eq => exact lv_if_eq hx hb hd hv2 (fun q => hgo _ _ _ _ (z1.1 q) H locs ls hP hD hS hl) (fun q => hgo _ _ _ _ (z1.2 q) H locs ls hP hD hS hl)
    | ne => exact lv_if_ne hx hb hd hv2 (fun q => hgo _ _ _ _ (z1.1 q) H locs ls hP hD hS hl) (fun q => hgo _ _ _ _ (z1.2 q) H locs ls hP hD hS hl)
    | lt => exact lv_if_lt hx hb hd hv2 (fun q => hgo _ _ _ _ (z1.1 q) H locs ls hP hD hS hl) (fun q => hgo _ _ _ _ (z1.2 q) H locs ls hP hD hS hl)
    | ge => exact lv_if_ge hx hb hd hv2 (fun q => hgo _ _ _ _ (z1.1 q) H locs ls hP hD hS hl) (fun q => hgo _ _ _ _ (z1.2 q) H locs ls hP hD hS hl)
    | gt => exact lv_if_gt hx hb hd hv2 (fun q => hgo _ _ _ _ (z1.1 q) H locs ls hP hD hS hl) (fun q => hgo _ _ _ _ (z1.2 q) H locs ls hP hD hS hl)
    | le => exact lv_if_le hx hb hd hv2 (fun q => hgo _ _ _ _ (z1.1 q) H locs ls hP hD hS hl) (fun q => hgo _ _ _ _ (z1.2 q) H locs ls hP hD hS hl)
  | if_icmp c off =>
    have hok := hok rfl
    have z0 := hz
    clear hz
    dsimp only [zv_1] at z0
    obtain ⟨hd, rfl, hv⟩ := hok
    refine zv_s2i_e z0 (fun x y r e z1 => ?_) hleaf
    have hv2 : (pc : Int) + off = (h.1 : Int) := of_decide_eq_true hv
    subst e
    intro H locs ls hP hD hS hl
    cases c with
    | eq => exact lv_icmp_eq hx hb hd hv2 (fun q => hgo _ _ _ _ (z1.1 q) H locs ls hP hD hS hl) (fun q => hgo _ _ _ _ (z1.2 q) H locs ls hP hD hS hl)
    | ne => exact lv_icmp_ne hx hb hd hv2 (fun q => hgo _ _ _ _ (z1.1 q) H locs ls hP hD hS hl) (fun q => hgo _ _ _ _ (z1.2 q) H locs ls hP hD hS hl)
    | lt => exact lv_icmp_lt hx hb hd hv2 (fun q => hgo _ _ _ _ (z1.1 q) H locs ls hP hD hS hl) (fun q => hgo _ _ _ _ (z1.2 q) H locs ls hP hD hS hl)
    | ge => exact lv_icmp_ge hx hb hd hv2 (fun q => hgo _ _ _ _ (z1.1 q) H locs ls hP hD hS hl) (fun q => hgo _ _ _ _ (z1.2 q) H locs ls hP hD hS hl)
    | gt => exact lv_icmp_gt hx hb hd hv2 (fun q => hgo _ _ _ _ (z1.1 q) H locs ls hP hD hS hl) (fun q => hgo _ _ _ _ (z1.2 q) H locs ls hP hD hS hl)
    | le => exact lv_icmp_le hx hb hd hv2 (fun q => hgo _ _ _ _ (z1.1 q) H locs ls hP hD hS hl) (fun q => hgo _ _ _ _ (z1.2 q) H locs ls hP hD hS hl)
  | goto off =>
    have hok := hok rfl
    have z0 := hz
    clear hz
    dsimp only [zv_1] at z0
    obtain ⟨hd, rfl, hv⟩ := hok
    intro H locs ls hP hD hS hl
    exact lv_goto hx hb hd (of_decide_eq_true hv) (hgo _ _ _ _ z0 H locs ls hP hD hS hl)
  | getfield n =>
    have hok := hok rfl
    have z0 := hz
    clear hz
    dsimp only [zv_1] at z0
    obtain ⟨hd, rfl, hv⟩ := hok
    refine zv_s1r_e z0 (fun a r e z1 => ?_) hleaf
    refine zv_ob_e z1 (fun a1 fs v hw hf z2 => ?_) hleaf
    obtain ⟨C, T, N, hc, hk, hlk, hin⟩ := zv_fld_e hv
    obtain ⟨hz1, z2⟩ := z2
    subst hz1
    subst e
    intro H locs ls hP hD hS hl
    exact va_get hx hb hts hin hown hK hP h.1 hw hc h.2.2.1 hk (hts _ hlk) (fun _ h9 => h9) hf hd (hgo _ _ _ _ z2 H locs ls hP hD hS hl)
  | putfield n =>
    have hok := hok rfl
    have z0 := hz
    clear hz
    dsimp only [zv_1] at z0
    obtain ⟨hd, rfl, hv⟩ := hok
    refine zv_svr_e z0 (fun v a r e z1 => ?_) hleaf
    refine zv_pb_e z1 (fun a1 fs hw hl1 hkd z2 => ?_) hleaf
    have hv := Bool.and_eq_true_iff.mp hv
    obtain ⟨C, T, N, hc, hk, hlk, hin⟩ := zv_fld_e hv.1
    obtain ⟨ty, hty0, hnm, hfin, hty, hn, hfit⟩ := zv_fit_e hc hk hv.2 hkd
    obtain ⟨hz1, z2⟩ := z2
    subst hz1
    subst e
    intro H locs ls hP hD hS hl
    exact va_put hx hb hts hin (zv_ty T) hty0 hnm hown hK hP hD hS h.1 hw hc h.2.2.1 hk (hts _ hlk) (fun _ h9 => h9) hfin hty hn hfit hl1 hd (fun H locs hP hD hS => hgo _ _ _ _ z2 H locs ls hP hD hS hl)
  | iaload =>
    have hok := hok rfl
    have z0 := hz
    clear hz
    dsimp only [zv_1] at z0
    obtain ⟨hd, rfl, -⟩ := hok
    refine zv_sir_e z0 (fun a i r e z1 => ?_) hleaf
    refine zv_ai_e z1 (fun a1 cA n f hw z2 => ?_) hleaf
    obtain ⟨⟨hz1, ht⟩, hin, z2⟩ := z2
    subst hz1
    subst e
    intro H locs ls hP hD hS hl
    exact va_iald hx hb hK hP h.1 h.2.1 hw ht hin hd (hgo _ _ _ _ z2 H locs ls hP hD hS hl)
  | laload =>
    have hok := hok rfl
    have z0 := hz
    clear hz
    dsimp only [zv_1] at z0
    obtain ⟨hd, rfl, -⟩ := hok
    refine zv_sir_e z0 (fun a i r e z1 => ?_) hleaf
    refine zv_al_e z1 (fun a1 cA n f hw z2 => ?_) hleaf
    obtain ⟨⟨hz1, ht⟩, hin, z2⟩ := z2
    subst hz1
    subst e
    intro H locs ls hP hD hS hl
    exact va_lald hx hb hK hP h.1 h.2.1 hw ht hin hd (hgo _ _ _ _ z2 H locs ls hP hD hS hl)
  | iastore =>
    have hok := hok rfl
    have z0 := hz
    clear hz
    dsimp only [zv_1] at z0
    obtain ⟨hd, rfl, -⟩ := hok
    refine zv_siir_e z0 (fun a i x r e z1 => ?_) hleaf
    refine zv_ai_e z1 (fun a1 cA n f hw z2 => ?_) hleaf
    obtain ⟨⟨hz1, ht⟩, hin, z2⟩ := z2
    subst hz1
    subst e
    intro H locs ls hP hD hS hl
    exact va_iast hx hb hK hP hD hS h.1 h.2.1 hw ht hin hd (fun H locs hP hD hS => hgo _ _ _ _ z2 H locs ls hP hD hS hl)
  | lastore =>
    have hok := hok rfl
    have z0 := hz
    clear hz
    dsimp only [zv_1] at z0
    obtain ⟨hd, rfl, -⟩ := hok
    refine zv_slir_e z0 (fun a i x r e z1 => ?_) hleaf
    refine zv_al_e z1 (fun a1 cA n f hw z2 => ?_) hleaf
    obtain ⟨⟨hz1, ht⟩, hin, z2⟩ := z2
    subst hz1
    subst e
    intro H locs ls hP hD hS hl
    exact va_last hx hb hK hP hD hS h.1 h.2.1 hw ht hin hd (fun H locs hP hD hS => hgo _ _ _ _ z2 H locs ls hP hD hS hl)
  | arraylength =>
    have hok := hok rfl
    have z0 := hz
    clear hz
    dsimp only [zv_1] at z0
    obtain ⟨hd, rfl, -⟩ := hok
    refine zv_s1r_e z0 (fun a r e z1 => ?_) hleaf
    refine zv_an_e z1 (fun a1 cA n y hw z2 => ?_) hleaf
    obtain ⟨⟨hz1, ht⟩, z2⟩ := z2
    subst hz1
    subst e
    intro H locs ls hP hD hS hl
    exact va_alen hx hb hK hP h.1 h.2.1 hw ht rfl hd (hgo _ _ _ _ z2 H locs ls hP hD hS hl)
  | baload =>
    have hok := hok rfl
    have z0 := hz
    clear hz
    dsimp only [zv_1] at z0
    obtain ⟨hd, rfl, hv⟩ := hok
    refine zv_sir_e z0 (fun a i r e z1 => ?_) hleaf
    refine zv_ai_e z1 (fun a1 cA n f hw z2 => ?_) hleaf
    obtain ⟨⟨hz1, ht⟩, hin, z2⟩ := z2
    subst hz1
    subst e
    intro H locs ls hP hD hS hl
    rcases Bool.or_eq_true_iff.mp hv with h2 | h2
    · rw [Nat.eq_of_beq_eq_true h2] at ht
      exact va_bald hx hb hK hP h.1 h.2.1 hw ht hin hd (hgo _ _ _ _ z2 H locs ls hP hD hS hl)
    · rw [Nat.eq_of_beq_eq_true h2] at ht
      exact va_zald hx hb hK hP h.1 h.2.1 hw ht hin hd (hgo _ _ _ _ z2 H locs ls hP hD hS hl)
  | bastore =>
    have hok := hok rfl
    have z0 := hz
    clear hz
    dsimp only [zv_1] at z0
    obtain ⟨hd, rfl, hv⟩ := hok
    refine zv_siir_e z0 (fun a i x r e z1 => ?_) hleaf
    refine zv_ai_e z1 (fun a1 cA n f hw z2 => ?_) hleaf
    obtain ⟨⟨hz1, ht⟩, hin, z2⟩ := z2
    subst hz1
    subst e
    intro H locs ls hP hD hS hl
    rcases Bool.or_eq_true_iff.mp hv with h2 | h2
    · rw [Nat.eq_of_beq_eq_true h2] at ht
      rw [Nat.eq_of_beq_eq_true h2] at z2
      exact va_bast hx hb hK hP hD hS h.1 h.2.1 hw ht hin hd (fun H locs hP hD hS => hgo _ _ _ _ z2 H locs ls hP hD hS hl)
    · rw [Nat.eq_of_beq_eq_true h2] at ht
      rw [Nat.eq_of_beq_eq_true h2] at z2
      exact va_zast hx hb hK hP hD hS h.1 h.2.1 hw ht hin hd (fun H locs hP hD hS => hgo _ _ _ _ z2 H locs ls hP hD hS hl)
  | _ => exact hleaf hz
def zv_ev (x : zv_X) (g : zv_G) (tb : List zv_I) (sp : List Nat) : Nat → Nat → zv_L → List Value → va_W → Nat → Nat → Prop
  | 0, pc, lv, st, ws, ce, sl => zv_V x g pc lv st ws ce sl
  | n + 1, pc, lv, st, ws, ce, sl => match zv_find tb pc with
    | none => zv_V x g pc lv st ws ce sl
    | some (i, nx, h) => zv_1 g.2.2.2.2.1 i nx h (zv_V x g pc lv st ws ce sl) (fun pc' lv' st' ws' => bif sp.contains pc' then zv_V x g pc' lv' st' ws' ce sl else zv_ev x g tb sp n pc' lv' st' ws' ce sl) lv st ws
theorem zv_go {x : zv_X} {l : Launch} {R : Room} {D : va_G} {cl : List vw_C} {tys : List (ClassId × FieldType)} {nL : Nat} {cc : ByteArray} {own : String} {Ts : List Jvm.Cond} (C : zv_C x (l, R, D, cl, tys, nL, cc, own, Ts)) {tb : List zv_I} (hok : zv_ok nL cc own Ts cl tb = true) (sp : List Nat) : ∀ (n : Nat) {pc : Nat} {lv : zv_L} {st : List Value} {ws : va_W} {ce sl : Nat}, zv_ev x (l, R, D, cl, tys, nL, cc, own, Ts) tb sp n pc lv st ws ce sl → zv_V x (l, R, D, cl, tys, nL, cc, own, Ts) pc lv st ws ce sl := by
  intro n
  induction n with
  | zero => intro pc lv st ws ce sl h; exact h
  | succ n ih =>
    intro pc lv st ws ce sl h
    unfold zv_ev at h
    split at h
    · exact h
    · rename_i i nx hh hf
      refine zv_1_ok C (fun hs => zv_ok_e hok (zv_find_mem _ _ _ hf) hs) (fun pc' lv' st' ws' hg => ?_) (fun hl => hl) h
      cases hb : sp.contains pc' with
      | true => rw [hb] at hg; exact hg
      | false => rw [hb] at hg; exact ih hg
end
section
/-! CONTRACTS, CALLS, ENDS over the walking layer -/
theorem zv_E.moved {s U : State} (hW : s.WarmedH U.vm) (h : zv_E s) : zv_E U := fun q hq => va_Nw.warmM hW (h q hq)
theorem zv_E.same {u U : State} (hv : u.vm = U.vm) (h : zv_E u) : zv_E U := fun q hq => va_Nw.same rfl hv (h q hq)
/-- a method's start: its arguments, its world's cells, the tables -/
def zv_Pre (D : va_G) (cl : List vw_C) (tys : List (ClassId × FieldType)) (ar : List Value) (wc : va_W) (sz : Nat) : Array Value → State → Prop := va_Pc ar (fun U => U.heap.size = sz ∧ va_P D cl wc U.heap ∧ va_K D cl tys U ∧ va_D (fun _ => True) wc ∧ zv_E U)
def zv_Post {S : Type} (D : va_G) (cl : List vw_C) (tys : List (ClassId × FieldType)) (wc : va_W) (sz : Nat) (post : S → Prop) (ret : S → Option Value) (w1 : S → va_W) : Array Value → State → Outcome → State → Prop := fun _ st oc t => (∃ u : S, oc = .returned (ret u) ∧ post u ∧ va_P D cl (w1 u) t.heap ∧ va_K D cl tys t ∧ va_D (va_A wc sz) (w1 u)) ∧ va_F (va_A wc sz) st t
/-- THE CONTRACT: from the world wc with the arguments ar it returns 'ret u', its cells are 'w1 u' -/
def zv_M {S : Type} (l : Launch) (D : va_G) (cl : List vw_C) (tys : List (ClassId × FieldType)) (y : MethodName) (wds : List Jvm.Cond) (rm : Room) (ar : List Value) (wc : va_W) (post : S → Prop) (ret : S → Option Value) (w1 : S → va_W) : Prop :=
  ∀ sz : Nat, Met l y wds rm (zv_Pre D cl tys ar wc sz) (zv_Post D cl tys wc sz post ret w1) rm.cells rm.slots (va_A wc sz)
theorem zv_Pre_blind {D : va_G} {cl : List vw_C} {tys : List (ClassId × FieldType)} {ar : List Value} {wc : va_W} {sz : Nat} : FrameBlind (zv_Pre D cl tys ar wc sz) := by
  intro a U g mk q
  obtain ⟨q0, q1, qP, qK, qD, qE⟩ := q
  exact ⟨q0, q1, qP, va_K.moved (u := U) (U := U.calling g mk a) (Vm.Alike.refl U.vm) qK, qD, qE.same rfl⟩
/-- cells put back in their places, new ones behind -/
def zv_put : va_W → List Nat → va_W → va_W
  | ws, [], w1 => ws ++ w1
  | ws, _ :: _, [] => ws
  | ws, i :: is, q :: w1 => zv_put (ws.set i q) is w1
/-- where the j-th cell of the callee's goes -/
def zv_pos (n : Nat) : List Nat → Nat → Nat
  | [], j => n + j
  | i :: _, 0 => i
  | _ :: is, j + 1 => zv_pos n is j
theorem zv_pos_nil (n j : Nat) : zv_pos n [] j = n + j := by cases j <;> rfl
theorem zv_put_spec : ∀ (is : List Nat) (ws w1 : va_W), is.length ≤ w1.length → (∀ i ∈ is, i < ws.length) → ∀ (k : Nat) (q : Nat × va_E), (zv_put ws is w1)[k]? = some q → (∃ j, w1[j]? = some q ∧ k = zv_pos ws.length is j) ∨ (k ∉ is ∧ ws[k]? = some q)
  | [], ws, w1, _, _, k, q, h => by
    have h : (ws ++ w1)[k]? = some q := by
      cases w1 with
      | nil => exact h
      | cons a b => exact h
    by_cases hl : k < ws.length
    · rw [List.getElem?_append_left hl] at h
      exact Or.inr ⟨List.not_mem_nil, h⟩
    · rw [List.getElem?_append_right (by omega)] at h
      exact Or.inl ⟨k - ws.length, h, by rw [zv_pos_nil]; omega⟩
  | i :: is, ws, [], hn, _, k, q, h => absurd hn (by simp)
  | i :: is, ws, r :: w1, hn, hi, k, q, h => by
    have hil : i < ws.length := hi i List.mem_cons_self
    have h : (zv_put (ws.set i r) is w1)[k]? = some q := h
    rcases zv_put_spec is (ws.set i r) w1 (by simpa using hn) (fun j hj => by rw [List.length_set]; exact hi j (List.mem_cons_of_mem _ hj)) k q h with ⟨j, h1, h2⟩ | ⟨h1, h2⟩
    · refine Or.inl ⟨j + 1, h1, ?_⟩
      rw [List.length_set] at h2
      exact h2
    · by_cases hk : k = i
      · subst hk
        rw [List.getElem?_set_self hil] at h2
        exact Or.inl ⟨0, h2, rfl⟩
      · rw [List.getElem?_set_ne (Ne.symm hk)] at h2
        refine Or.inr ⟨fun hm => ?_, h2⟩
        rcases List.mem_cons.mp hm with e | e
        · exact hk e
        · exact h1 e
theorem zv_pos_ge (n : Nat) : ∀ (is : List Nat) (j : Nat), (zv_pos n is j ∈ is ∧ j < is.length) ∨ (n ≤ zv_pos n is j ∧ is.length ≤ j)
  | [], j => Or.inr ⟨by rw [zv_pos_nil]; omega, Nat.zero_le _⟩
  | i :: is, 0 => Or.inl ⟨List.mem_cons_self, by simp⟩
  | i :: is, j + 1 => by
    rcases zv_pos_ge n is j with ⟨h1, h2⟩ | ⟨h1, h2⟩
    · exact Or.inl ⟨List.mem_cons_of_mem _ h1, by simpa using h2⟩
    · exact Or.inr ⟨h1, by simpa using h2⟩
theorem zv_pos_inj (n : Nat) : ∀ (is : List Nat), va_nd is = true → (∀ i ∈ is, i < n) → ∀ (a b : Nat), zv_pos n is a = zv_pos n is b → a = b
  | [], _, _, a, b, h => by rw [zv_pos_nil, zv_pos_nil] at h; omega
  | i :: is, hn, hi, 0, 0, _ => rfl
  | i :: is, hn, hi, 0, b + 1, h => by
    simp only [va_nd, Bool.and_eq_true, decide_eq_true_eq] at hn
    have h : i = zv_pos n is b := h
    rcases zv_pos_ge n is b with ⟨h1, -⟩ | ⟨h1, -⟩
    · exact absurd (h ▸ h1) hn.1
    · have := hi i List.mem_cons_self
      omega
  | i :: is, hn, hi, a + 1, 0, h => by
    simp only [va_nd, Bool.and_eq_true, decide_eq_true_eq] at hn
    have h : zv_pos n is a = i := h
    rcases zv_pos_ge n is a with ⟨h1, -⟩ | ⟨h1, -⟩
    · exact absurd (h ▸ h1) hn.1
    · have := hi i List.mem_cons_self
      omega
  | i :: is, hn, hi, a + 1, b + 1, h => by
    simp only [va_nd, Bool.and_eq_true, decide_eq_true_eq] at hn
    have h : zv_pos n is a = zv_pos n is b := h
    rw [zv_pos_inj n is hn.2 (fun j hj => hi j (List.mem_cons_of_mem _ hj)) a b h]
/-- behind a call: the world with the callee's cells put back -/
theorem zv_join {A0 : Nat → Prop} {D : va_G} {cl : List vw_C} {ws wc w1 : va_W} {H H1 : Heap} (hP : va_P D cl ws H) (hD : va_D A0 ws) (isC : List Nat) (hC : isC.map (fun i => ws[i]?) = wc.map some) (hn : va_nd isC = true) (hle : isC.length ≤ w1.length)
    (hk : ∀ q : Nat, q < H.size → ¬ va_A wc H.size q → H1[q]? = H[q]?) (hF : ∀ q, va_A wc H.size q → A0 q) (hP1 : va_P D cl w1 H1) (hD1 : va_D (va_A wc H.size) w1) : va_P D cl (zv_put ws isC w1) H1 ∧ va_D A0 (zv_put ws isC w1) := by
  have hil : ∀ i ∈ isC, i < ws.length := by
    intro i hi
    have h1 : ws[i]? ∈ wc.map some := by rw [← hC]; exact List.mem_map.mpr ⟨i, hi, rfl⟩
    obtain ⟨q, -, hq⟩ := List.mem_map.mp h1
    exact (List.getElem?_eq_some_iff.mp hq.symm).1
  have apart : ∀ (k : Nat) (q : Nat × va_E), k ∉ isC → ws[k]? = some q → q.1 < H.size ∧ ¬ va_A wc H.size q.1 := by
    intro k q hk2 hq
    have hl := (hP k q hq).lt
    refine ⟨hl, fun h => ?_⟩
    rcases h with ⟨k2, e, h⟩ | h
    · have h1 : (isC.map (fun i => ws[i]?))[k2]? = some (some (q.1, e)) := by rw [hC, List.getElem?_map, h]; rfl
      rw [List.getElem?_map] at h1
      cases hi : isC[k2]? with
      | none => rw [hi] at h1; cases h1
      | some i =>
        rw [hi] at h1
        have h2 : ws[i]? = some (q.1, e) := Option.some.inj h1
        have hij := hD.1 k i q (q.1, e) hq h2 rfl
        subst hij
        exact hk2 (List.mem_of_getElem? hi)
    · omega
  refine ⟨fun k q hq => ?_, fun i j x y hi hj hxy => ?_, fun k q hq => ?_⟩
  · rcases zv_put_spec isC ws w1 hle hil k q hq with ⟨j, h1, -⟩ | ⟨h1, h2⟩
    · exact hP1 j q h1
    · obtain ⟨g1, g2⟩ := apart k q h1 h2
      exact (hP k q h2).kept (hk q.1 g1 g2)
  · rcases zv_put_spec isC ws w1 hle hil i x hi with ⟨a, h1, h2⟩ | ⟨h1, h2⟩ <;> rcases zv_put_spec isC ws w1 hle hil j y hj with ⟨b, h3, h4⟩ | ⟨h3, h4⟩
    · have := hD1.1 a b x y h1 h3 hxy
      rw [h2, h4, this]
    · exact absurd (by rw [← hxy]; exact hD1.2 a x h1) (apart j y h3 h4).2
    · exact absurd (by rw [hxy]; exact hD1.2 b y h3) (apart i x h1 h2).2
    · exact hD.1 i j x y h2 h4 hxy
  · rcases zv_put_spec isC ws w1 hle hil k q hq with ⟨j, h1, -⟩ | ⟨h1, h2⟩
    · exact hF q.1 (hD1.2 j q h1)
    · exact hD.2 k q h2
section ZC
variable {x : zv_X} {l : Launch} {R : Room} {D : va_G} {cl : List vw_C} {tys : List (ClassId × FieldType)} {nL : Nat} {cc : ByteArray} {own : String} {Ts : List Jvm.Cond}
variable {S : Type} {y : MethodName} {wds : List Jvm.Cond} {rm : Room} {wc : va_W} {post : S → Prop} {ret : S → Option Value} {w1 : S → va_W} {As : List Value} {pc nx : Nat} {lv : zv_L} {st rest : List Value} {ws : va_W} {ce sl index maxL n : Nat} {bytes : ByteArray} {rt : Option FieldType}
/-- what a run of a call gives, in the walking layer's words -/
theorem zv_back {p : Program} {e : Env} {s : State} {m : MethodId} {args : Array Value} {below : List Frame} {meth : Method} {c : Code} {A : Nat → Prop} {Q : State → Prop} {H : Heap} {locs : List Loc} {ls : Array Slot} {a0 : Array Value}
    (hK : va_K D cl tys s) (hP : va_P D cl ws H) (hD : va_D A ws) (hS : va_S A s.heap H locs) (hl : lv_has ls nL lv) (hA : ∀ q, s.heap.size ≤ q → A q)
    (hr : va_Run p l e R s m args below meth c H locs ce sl rm.cells rm.slots (F0 m pc ls st) rest (zv_Post D cl tys wc H.size post ret w1 a0) (va_A wc H.size))
    (isC : List Nat) (hC : isC.map (fun i => ws[i]?) = wc.map some) (hnd : va_nd isC = true) (hle : ∀ u, isC.length ≤ (w1 u).length)
    (k : ∀ u, post u → zv_V (p, e, s, m, args, below, meth, c, A, Q) (l, R, D, cl, tys, nL, cc, own, Ts) (pc + 3) lv ((ret u).toList ++ rest) (zv_put ws isC (w1 u)) (ce + rm.cells) (sl + rm.slots)) : W p l e R s m args below meth c H locs ce sl Q (F0 m pc ls st) := by
  have hFc := va_free (wc := wc) hD hS hA isC hC
  intro T hT X
  obtain ⟨v, st₀, t, T', L, h0, X', hL, e1, e2, ⟨⟨u, hv, hp, hP1, hK1, hD1⟩, hz, hk⟩, st⟩ := hr T hT X
  cases hv
  rw [h0] at hz hk
  have hkk : ∀ q : Nat, q < H.size → ¬ va_A wc H.size q → T'.heap[q]? = H[q]? := fun q h1 h2 => by rw [e1]; exact hk q h1 h2
  obtain ⟨hP2, hD2⟩ := zv_join hP hD isC hC hnd (hle u) hkk hFc (by rw [e1]; exact hP1) hD1
  obtain ⟨t2, a1, b1⟩ := k u hp T'.heap (locs ++ L) ls hP2 hD2 ⟨Nat.le_trans hS.1 (by rw [e1]; exact hz), fun q h1 h2 => by rw [hkk q (Nat.lt_of_lt_of_le h1 hS.1) (fun z => h2 (hFc q z))]; exact hS.2.1 q h1 h2, fun q hq => by
      rcases List.mem_append.mp hq with h | h
      · exact hS.2.2 q h
      · exact hFc _ (hL q h)⟩ hl T' rfl X'
  exact ⟨t2, st t2 a1, b1⟩
theorem zv_sub {wc ws : va_W} (isC : List Nat) (hC : isC.map (fun i => ws[i]?) = wc.map some) : isC.filterMap (fun i => ws[i]?) = wc := by
  have h := congrArg (List.filterMap id) hC
  rw [List.filterMap_map, List.filterMap_map] at h
  simpa [Function.comp_def] using h
theorem zv_callV (C : zv_C x (l, R, D, cl, tys, nL, cc, own, Ts)) {b : Nat} (hM : zv_M l D cl tys y wds rm (.ref b :: As) wc post ret w1)
    (cw : ∀ (s : State) (args : Array Value), (∀ w ∈ Ts, w.before args s = true) → CallW R s args own y.cls index y bytes maxL rt wds rm rm.cells rm.slots n)
    (isC : List Nat) (q0 : Nat) {ci : Nat} {fs : List Value} {T : u_T} {N : Nat} (hrec : ws[q0]? = some (b, .inr (ci, fs))) (hcl : cl[ci]? = some (y.cls, T, N)) (hC : isC.map (fun i => ws[i]?) = wc.map some) (hnd : va_nd isC = true) (hle : ∀ u, isC.length ≤ (w1 u).length)
    (hst : st = As.reverse ++ .ref b :: rest) (hn : As.length = n) (hrest : (rest.map fun v => v.category).sum ≤ 8) (hdg : decode cc pc = .ok (.invokevirtual index, 3)) (hcells : ce + rm.cells ≤ R.cells) (hslots : sl + rm.slots ≤ R.slots) (hnx : pc + 3 = nx)
    (k : ∀ u, post u → zv_V x (l, R, D, cl, tys, nL, cc, own, Ts) nx lv ((ret u).toList ++ rest) (zv_put ws isC (w1 u)) (ce + rm.cells) (sl + rm.slots)) : zv_V x (l, R, D, cl, tys, nL, cc, own, Ts) pc lv st ws ce sl := by
  subst hnx
  obtain ⟨p, e, s, m, args, below, meth, c, A, Q⟩ := x
  obtain ⟨hx, hb, hml, hown, hts, hK, hA, hE⟩ := C
  intro H locs ls hP hD hS hl
  subst hst
  refine zv_back (cc := cc) (own := own) (Ts := Ts) (nL := nL) hK hP hD hS hl hA (va_runV (As := As) (rest := rest) ⟨hx, hb, hml, hown, hts⟩ (hM H.size) (cw s args hts) ⟨zv_Pre_blind, va_recv hK hP (ci := ci) (q0 := q0) hcl hrec, fun U hU hW => ⟨rfl, by rw [hU], by rw [hU]; exact hP.sub isC (zv_sub isC hC), va_K.moved hW.alike hK, (hD.sub isC hnd hC).weaken (fun _ _ _ _ => trivial), zv_E.moved hW hE⟩⟩ rfl hn hl.1 rfl (lv_room hrest) hdg ⟨hcells, hslots⟩) isC hC hnd hle k
theorem zv_callS (C : zv_C x (l, R, D, cl, tys, nL, cc, own, Ts)) (hM : zv_M l D cl tys y wds rm As wc post ret w1)
    (cw : ∀ (s : State) (args : Array Value), (∀ w ∈ Ts, w.before args s = true) → CallB R s args own index y bytes maxL rt wds rm rm.cells rm.slots n ∧ (Jvm.Cond.static y).before args s = true)
    (isC : List Nat) (hC : isC.map (fun i => ws[i]?) = wc.map some) (hnd : va_nd isC = true) (hle : ∀ u, isC.length ≤ (w1 u).length)
    (hst : st = As.reverse ++ rest) (hn : As.length = n) (hrest : (rest.map fun v => v.category).sum ≤ 8) (hdg : decode cc pc = .ok (.invokestatic index, 3)) (hcells : ce + rm.cells ≤ R.cells) (hslots : sl + rm.slots ≤ R.slots) (hnx : pc + 3 = nx)
    (k : ∀ u, post u → zv_V x (l, R, D, cl, tys, nL, cc, own, Ts) nx lv ((ret u).toList ++ rest) (zv_put ws isC (w1 u)) (ce + rm.cells) (sl + rm.slots)) : zv_V x (l, R, D, cl, tys, nL, cc, own, Ts) pc lv st ws ce sl := by
  subst hnx
  obtain ⟨p, e, s, m, args, below, meth, c, A, Q⟩ := x
  obtain ⟨hx, hb, hml, hown, hts, hK, hA, hE⟩ := C
  intro H locs ls hP hD hS hl
  subst hst
  refine zv_back (cc := cc) (own := own) (Ts := Ts) (nL := nL) hK hP hD hS hl hA (va_runS (As := As) (rest := rest) ⟨hx, hb, hml, hown, hts⟩ (hM H.size) (cw s args hts) ⟨zv_Pre_blind, fun U hU hW => ⟨rfl, by rw [hU], by rw [hU]; exact hP.sub isC (zv_sub isC hC), va_K.moved hW.alike hK, (hD.sub isC hnd hC).weaken (fun _ _ _ _ => trivial), zv_E.moved hW hE⟩⟩ rfl hn hl.1 rfl (lv_room hrest) hdg ⟨hcells, hslots⟩) isC hC hnd hle k
theorem zv_callI (C : zv_C x (l, R, D, cl, tys, nL, cc, own, Ts)) {b : Nat} (hM : zv_M l D cl tys y wds rm (.ref b :: As) wc post ret w1)
    (cw : ∀ (s : State) (args : Array Value), (∀ w ∈ Ts, w.before args s = true) → CallB R s args own index y bytes maxL none wds rm rm.cells rm.slots n ∧ y.name = "<init>" ∧ (Jvm.Cond.instanceMethod y).before args s = true)
    (isC : List Nat) (hC : isC.map (fun i => ws[i]?) = wc.map some) (hnd : va_nd isC = true) (hle : ∀ u, isC.length ≤ (w1 u).length)
    (hst : st = As.reverse ++ .ref b :: rest) (hn : As.length = n) (hrest : (rest.map fun v => v.category).sum ≤ 8) (hdg : decode cc pc = .ok (.invokespecial index, 3)) (hcells : ce + rm.cells ≤ R.cells) (hslots : sl + rm.slots ≤ R.slots) (hnx : pc + 3 = nx)
    (k : ∀ u, post u → zv_V x (l, R, D, cl, tys, nL, cc, own, Ts) nx lv ((ret u).toList ++ rest) (zv_put ws isC (w1 u)) (ce + rm.cells) (sl + rm.slots)) : zv_V x (l, R, D, cl, tys, nL, cc, own, Ts) pc lv st ws ce sl := by
  subst hnx
  obtain ⟨p, e, s, m, args, below, meth, c, A, Q⟩ := x
  obtain ⟨hx, hb, hml, hown, hts, hK, hA, hE⟩ := C
  intro H locs ls hP hD hS hl
  subst hst
  refine zv_back (cc := cc) (own := own) (Ts := Ts) (nL := nL) hK hP hD hS hl hA (va_runI (As := As) (rest := rest) ⟨hx, hb, hml, hown, hts⟩ (hM H.size) (cw s args hts) ⟨zv_Pre_blind, fun U hU hW => ⟨rfl, by rw [hU], by rw [hU]; exact hP.sub isC (zv_sub isC hC), va_K.moved hW.alike hK, (hD.sub isC hnd hC).weaken (fun _ _ _ _ => trivial), zv_E.moved hW hE⟩⟩ rfl hn hl.1 rfl (lv_room hrest) hdg ⟨hcells, hslots⟩) isC hC hnd hle k
theorem zv_callSN (C : zv_C x (l, R, D, cl, tys, nL, cc, own, Ts)) (hM : zv_M l D cl tys y wds rm As wc post ret w1) {host : String} (hlk : (own, index, y, host) ∈ zv_nl)
    (cw : ∀ (s : State) (args : Array Value), (∀ w ∈ Ts, w.before args s = true) → va_Nw (.methodLinkNest own index y host) s → va_CN R s args own index y host bytes maxL rt wds rm rm.cells rm.slots n ∧ (Jvm.Cond.static y).before args s = true ∧ True)
    (isC : List Nat) (hC : isC.map (fun i => ws[i]?) = wc.map some) (hnd : va_nd isC = true) (hle : ∀ u, isC.length ≤ (w1 u).length)
    (hst : st = As.reverse ++ rest) (hn : As.length = n) (hrest : (rest.map fun v => v.category).sum ≤ 8) (hdg : decode cc pc = .ok (.invokestatic index, 3)) (hcells : ce + rm.cells ≤ R.cells) (hslots : sl + rm.slots ≤ R.slots) (hnx : pc + 3 = nx)
    (k : ∀ u, post u → zv_V x (l, R, D, cl, tys, nL, cc, own, Ts) nx lv ((ret u).toList ++ rest) (zv_put ws isC (w1 u)) (ce + rm.cells) (sl + rm.slots)) : zv_V x (l, R, D, cl, tys, nL, cc, own, Ts) pc lv st ws ce sl := by
  subst hnx
  obtain ⟨p, e, s, m, args, below, meth, c, A, Q⟩ := x
  obtain ⟨hx, hb, hml, hown, hts, hK, hA, hE⟩ := C
  intro H locs ls hP hD hS hl
  subst hst
  refine zv_back (cc := cc) (own := own) (Ts := Ts) (nL := nL) hK hP hD hS hl hA (va_runSN (As := As) (rest := rest) ⟨hx, hb, hml, hown, hts⟩ (hM H.size) (cw s args hts (hE _ hlk)) ⟨zv_Pre_blind, fun U hU hW => ⟨rfl, by rw [hU], by rw [hU]; exact hP.sub isC (zv_sub isC hC), va_K.moved hW.alike hK, (hD.sub isC hnd hC).weaken (fun _ _ _ _ => trivial), zv_E.moved hW hE⟩⟩ rfl hn hl.1 rfl (lv_room hrest) hdg ⟨hcells, hslots⟩) isC hC hnd hle k
theorem zv_callIN (C : zv_C x (l, R, D, cl, tys, nL, cc, own, Ts)) {b : Nat} (hM : zv_M l D cl tys y wds rm (.ref b :: As) wc post ret w1) {host : String} (hlk : (own, index, y, host) ∈ zv_nl)
    (cw : ∀ (s : State) (args : Array Value), (∀ w ∈ Ts, w.before args s = true) → va_Nw (.methodLinkNest own index y host) s → va_CN R s args own index y host bytes maxL none wds rm rm.cells rm.slots n ∧ y.name = "<init>" ∧ (Jvm.Cond.instanceMethod y).before args s = true)
    (isC : List Nat) (hC : isC.map (fun i => ws[i]?) = wc.map some) (hnd : va_nd isC = true) (hle : ∀ u, isC.length ≤ (w1 u).length)
    (hst : st = As.reverse ++ .ref b :: rest) (hn : As.length = n) (hrest : (rest.map fun v => v.category).sum ≤ 8) (hdg : decode cc pc = .ok (.invokespecial index, 3)) (hcells : ce + rm.cells ≤ R.cells) (hslots : sl + rm.slots ≤ R.slots) (hnx : pc + 3 = nx)
    (k : ∀ u, post u → zv_V x (l, R, D, cl, tys, nL, cc, own, Ts) nx lv ((ret u).toList ++ rest) (zv_put ws isC (w1 u)) (ce + rm.cells) (sl + rm.slots)) : zv_V x (l, R, D, cl, tys, nL, cc, own, Ts) pc lv st ws ce sl := by
  subst hnx
  obtain ⟨p, e, s, m, args, below, meth, c, A, Q⟩ := x
  obtain ⟨hx, hb, hml, hown, hts, hK, hA, hE⟩ := C
  intro H locs ls hP hD hS hl
  subst hst
  refine zv_back (cc := cc) (own := own) (Ts := Ts) (nL := nL) hK hP hD hS hl hA (va_runIN (As := As) (rest := rest) ⟨hx, hb, hml, hown, hts⟩ (hM H.size) (cw s args hts (hE _ hlk)) ⟨zv_Pre_blind, fun U hU hW => ⟨rfl, by rw [hU], by rw [hU]; exact hP.sub isC (zv_sub isC hC), va_K.moved hW.alike hK, (hD.sub isC hnd hC).weaken (fun _ _ _ _ => trivial), zv_E.moved hW hE⟩⟩ rfl hn hl.1 rfl (lv_room hrest) hdg ⟨hcells, hslots⟩) isC hC hnd hle k
end ZC
end
section
/-! ENTRY, RETURN, NEW, ARRAYS over the walking layer -/
def zv_rok (cc : ByteArray) (pc : Nat) : Option FieldType → Option Value → Prop
  | none, none => decode cc pc = .ok (.return_, 1)
  | some .int, some (.int _) => decode cc pc = .ok (.ireturn, 1)
  | some .boolean, some (.int v) => narrow .boolean (.int v) = .int v ∧ decode cc pc = .ok (.ireturn, 1)
  | some .long, some (.long _) => decode cc pc = .ok (.lreturn, 1)
  | some (.array _), some (.ref _) => decode cc pc = .ok (.areturn, 1)
  | _, _ => False
/-- the end of a method: its answer, its cells by their places -/
def zv_Rt {S : Type} (x : zv_X) (g : zv_G) (rt : Option FieldType) (rm : Room) (post : S → Prop) (ret : S → Option Value) (w1 : S → va_W) : Prop :=
  ∀ (u : S) (pc : Nat) (lv : zv_L) (ws : va_W) (ce sl : Nat) (is : List Nat), post u → is.map (fun i => ws[i]?) = (w1 u).map some → va_nd is = true → ce ≤ rm.cells → sl ≤ rm.slots → zv_rok g.2.2.2.2.2.2.1 pc rt (ret u) → zv_V x g pc lv (ret u).toList ws ce sl
def zv_nm (x : zv_X) (nm : String) : Prop := x.2.2.2.2.2.2.1.name = nm
set_option maxHeartbeats 1000000 in
theorem zv_of {S : Type} {l : Launch} {D : va_G} {cl : List vw_C} {tys : List (ClassId × FieldType)} {y : MethodName} {wds ws' Ts : List Jvm.Cond} {rm : Room} {ar : List Value} {wc : va_W} {post : S → Prop} {ret : S → Option Value} {w1 : S → va_W} {cc : ByteArray} {maxL : Nat} {rt : Option FieldType}
    (hy : plainName y.cls = true) (hw : wds = Jvm.Cond.code y cc maxL rt :: ws') (hsub : ∀ w ∈ Ts, w ∈ wds) (hlen : (lg_sl ar).length ≤ maxL)
    (body : ∀ x : zv_X, zv_C x (l, rm, D, cl, tys, maxL, cc, y.cls, Ts) → zv_Rt x (l, rm, D, cl, tys, maxL, cc, y.cls, Ts) rt rm post ret w1 → zv_nm x y.name → zv_V x (l, rm, D, cl, tys, maxL, cc, y.cls, Ts) 0 (lv_args 0 ar) [] wc 0 0) : zv_M l D cl tys y wds rm ar wc post ret w1 := by
  intro sz
  refine Met.ofW (cc := cc) (maxL := maxL) (ret := rt) hy hw ?_
  intro p e s m args below meth c s₁ B hml hv
  obtain ⟨rfl, hsz, hP, hK, hD0, hE⟩ := hv
  subst hsz
  have hx := B.exec
  have hb := B.bytes
  have hr := B.returns
  have hts := atoms_spec (ws := wds) B.pre
  have hown : s.vm.findClass y.cls = some m.cls := findClass_of_methodNamed B.named
  have hlocks := B.notSynchronized
  have hin : meth.name = y.name := (name_of_methodNamed B.named B.method).1
  have hD := hD0.self (sz := s.heap.size)
  have hA : ∀ q : Nat, s.heap.size ≤ q → va_A wc s.heap.size q := fun q h => Or.inr h
  have hl := lv_entry ar (n := maxL) hlen
  rw [lg_entry_eq]
  refine body (p, e, s, m, ar.toArray, below, meth, c, va_A wc s.heap.size, MQ below (zv_Post D cl tys wc s.heap.size post ret w1) ar.toArray s rm.cells rm.slots (va_A wc s.heap.size)) ⟨hx, hb, hml, hown, fun w h => hts w (hsub w h), hK, hA, hE⟩ ?_ hin s.heap [] _ hP hD va_S.rf hl
  intro u pc lv ws ce sl is hp hC hnd hce hsl hrok H locs ls hP hD hS hl
  refine W.widen (k := rm.cells) (n := rm.slots) hce hsl ?_
  have hq : ∀ t : State, t.heap = H → s.WarmedH t.vm → zv_Post D cl tys wc s.heap.size post ret w1 ar.toArray s (.returned (ret u)) t := fun t ht hW => ⟨⟨u, rfl, hp, by rw [ht]; exact hP.sub is (zv_sub is hC), va_K.moved hW.alike hK, hD.sub is hnd hC⟩, hS.F ht⟩
  generalize hru : ret u = r at hrok hq ⊢
  match rt, r, hrok, hr with
  | none, none, h, hr => exact W.vret hx hb hr hq hS.2.2 h hlocks
  | some .int, some (.int v), h, hr => exact W.iret hx hb hr hq hS.2.2 h hlocks
  | some .boolean, some (.int v), h, hr => exact W.zret hx hb hr h.1 hq hS.2.2 h.2 hlocks
  | some .long, some (.long v), h, hr => exact W.lret hx hb hr hq hS.2.2 h hlocks
  | some (.array t), some (.ref v), h, hr => exact W.aret hx hb hr (Or.inr ⟨t, rfl⟩) (Or.inr ⟨v, rfl⟩) hq hS.2.2 h hlocks
section ZN
variable {x : zv_X} {l : Launch} {R : Room} {D : va_G} {cl : List vw_C} {tys : List (ClassId × FieldType)} {nL : Nat} {cc : ByteArray} {own : String} {Ts : List Jvm.Cond}
variable {pc nx : Nat} {lv lv' : zv_L} {st rest : List Value} {ws ws' : va_W} {ce sl ce' sl' : Nat}
/-- fewer locals known, more room taken -/
theorem zv_drop (ks : List Nat) (h : lv_pick lv ks = lv') (k : zv_V x (l, R, D, cl, tys, nL, cc, own, Ts) pc lv' st ws ce sl) : zv_V x (l, R, D, cl, tys, nL, cc, own, Ts) pc lv st ws ce sl := by
  obtain ⟨p, e, s, m, args, below, meth, c, A, Q⟩ := x
  intro H locs ls hP hD hS hl
  exact k H locs ls hP hD hS (lv_sub hl ks h)
theorem zv_wide (h1 : ce ≤ ce') (h2 : sl ≤ sl') (k : zv_V x (l, R, D, cl, tys, nL, cc, own, Ts) pc lv st ws ce' sl') : zv_V x (l, R, D, cl, tys, nL, cc, own, Ts) pc lv st ws ce sl := by
  obtain ⟨p, e, s, m, args, below, meth, c, A, Q⟩ := x
  intro H locs ls hP hD hS hl
  exact W.widen h1 h2 (k H locs ls hP hD hS hl)
/-- fewer cells, or in another order -/
theorem zv_cells (is : List Nat) (hn : va_nd is = true) (h : is.map (fun i => ws[i]?) = ws'.map some) (k : zv_V x (l, R, D, cl, tys, nL, cc, own, Ts) pc lv st ws' ce sl) : zv_V x (l, R, D, cl, tys, nL, cc, own, Ts) pc lv st ws ce sl := by
  obtain ⟨p, e, s, m, args, below, meth, c, A, Q⟩ := x
  intro H locs ls hP hD hS hl
  exact k H locs ls (hP.sub is (zv_sub is h)) (hD.sub is hn h) hS hl
/-- the words of 'new' -/
def zv_nwk (own : String) (Ts : List Jvm.Cond) (cl : List vw_C) (index ci : Nat) : Bool := match cl[ci]? with
  | some (C, T, N) => decide (Jvm.Cond.classLink own index C ∈ Ts) && (decide (Jvm.Cond.instantiable C N ∈ Ts) && (decide (Jvm.Cond.initialized C ∈ Ts) && ((u_ws C T N).all (fun w => decide (w ∈ Ts)) && (List.range N).all (fun a => (parseFieldDescriptor (T a).2.2.1).isSome))))
  | none => false
theorem zv_new (C : zv_C x (l, R, D, cl, tys, nL, cc, own, Ts)) {index ci : Nat} {Cn : String} {T : u_T} {N : Nat} {fs : List Value} (hc : cl[ci]? = some (Cn, T, N)) (hk : zv_nwk own Ts cl index ci = true) (hfs : (List.range N).map (fun j => defaultValue (zv_ty T j)) = fs) (hdg : decode cc pc = .ok (.new index, 3)) (hcells : ce + 1 ≤ R.cells) (hslots : sl + N ≤ R.slots) (hnx : pc + 3 = nx)
    (k : ∀ q : Nat, zv_V x (l, R, D, cl, tys, nL, cc, own, Ts) nx lv (.ref q :: st) (ws ++ [(q, .inr (ci, fs))]) (ce + 1) (sl + N)) : zv_V x (l, R, D, cl, tys, nL, cc, own, Ts) pc lv st ws ce sl := by
  subst hnx
  unfold zv_nwk at hk
  rw [hc] at hk
  simp only [Bool.and_eq_true, decide_eq_true_eq, List.all_eq_true, List.mem_range] at hk
  obtain ⟨h1, h2, h3, h4, h5⟩ := hk
  obtain ⟨p, e, s, m, args, below, meth, c, A, Q⟩ := x
  obtain ⟨hx, hb, hml, hown, hts, hK, hA, hE⟩ := C
  intro H locs ls hP hD hS hl
  refine va_new (ci := ci) (fs := fs) hx hb hts h4 (zv_ty T) (fun k hk => ?_) hown (hts _ h1) (hts _ h2) (hts _ h3) hK hP hD hS hA hc (fun j hj => ?_) hcells hslots hdg (fun q H hP hD hS => k q H locs ls hP hD hS hl)
  · have h6 := h5 k hk
    unfold zv_ty
    cases hp : parseFieldDescriptor (T k).2.2.1 with
    | none => rw [hp] at h6; cases h6
    | some t => rfl
  · rw [← hfs]
    simp [vp_V, hj]
theorem zv_arr1 {s : State} {c1 c2 : ClassId} {ty : FieldType} {kd : Nat} (hty : ty = zv_k2t kd) (h1 : va_RA s c1 ty) (h2 : va_RA s c2 ty) : c1 = c2 := by
  subst hty
  have e : ∀ kd, va_RA s c1 (zv_k2t kd) → va_RA s c2 (zv_k2t kd) → c1 = c2 := by
    intro kd h1 h2
    unfold zv_k2t at h1 h2
    cases h3 : Nat.beq kd 0 with
    | true => rw [h3] at h1 h2; exact Option.some.inj (h1.symm.trans h2)
    | false =>
      cases h4 : Nat.beq kd 1 with
      | true => rw [h3, h4] at h1 h2; exact Option.some.inj (h1.symm.trans h2)
      | false =>
        cases h5 : Nat.beq kd 2 with
        | true => rw [h3, h4, h5] at h1 h2; exact Option.some.inj (h1.symm.trans h2)
        | false => rw [h3, h4, h5] at h1 h2; exact Option.some.inj (h1.symm.trans h2)
  exact e kd h1 h2
theorem zv_newa (C : zv_C x (l, R, D, cl, tys, nL, cc, own, Ts)) {atype : ArrayType} (kd t0 : Nat) {cA : ClassId} {N' : Nat} {a0 : vp_A} {n : Int32} (hty : newarray.typeOf atype = zv_k2t kd) (harr : Jvm.Cond.arrayClass (newarray.typeOf atype) ∈ Ts) (ht : tys[t0]? = some (cA, zv_k2t kd)) (ha : ∀ cA : ClassId, vp_cell cA a0 = arrV cA N' (fun _ => defaultValue (zv_k2t kd)))
    (hst : st = .int n :: rest) (hn : ¬ n < 0) (hN : n.toNatClampNeg = N') (hbytes : N' * componentBytes (zv_k2t kd) ≤ 536870912) (hdg : decode cc pc = .ok (.newarray atype, 2)) (hcells : ce + 1 ≤ R.cells) (hslots : sl + N' ≤ R.slots) (hnx : pc + 2 = nx)
    (k : ∀ q : Nat, zv_V x (l, R, D, cl, tys, nL, cc, own, Ts) nx lv (.ref q :: rest) (ws ++ [(q, .inl (cA, a0))]) (ce + 1) (sl + N')) : zv_V x (l, R, D, cl, tys, nL, cc, own, Ts) pc lv st ws ce sl := by
  subst hnx
  subst hst
  obtain ⟨p, e, s, m, args, below, meth, c, A, Q⟩ := x
  obtain ⟨hx, hb, hml, hown, hts, hK, hA, hE⟩ := C
  intro H locs ls hP hD hS hl
  refine va_newa hx hb (hts _ harr) hty hK hP hD hS hA ha hn hN hbytes hcells hslots hdg (fun q c1 H1 hK1 hP hD hS => ?_)
  have e1 : c1 = cA := zv_arr1 rfl (hK1.2 tys.length (c1, zv_k2t kd) (by simp)).2 (hK.2 t0 _ ht).2
  subst e1
  exact k q H1 locs ls hP hD hS hl
theorem zv_objInit (C : zv_C x (l, R, D, cl, tys, nL, cc, own, Ts)) {index a : Nat} (h1 : Jvm.Cond.methodLink own index objectInit ∈ Ts) (h2 : Jvm.Cond.instanceMethod objectInit ∈ Ts) (h3 : Jvm.Cond.code objectInit ⟨#[0xb1]⟩ 1 none ∈ Ts) (hst : st = .ref a :: rest) (hdg : decode cc pc = .ok (.invokespecial index, 3)) (hf : 1 ≤ R.frames) (hloc : (rest.map fun v => v.category).sum + 12 ≤ R.locals) (hnx : pc + 3 = nx)
    (k : zv_V x (l, R, D, cl, tys, nL, cc, own, Ts) nx lv rest ws ce sl) : zv_V x (l, R, D, cl, tys, nL, cc, own, Ts) pc lv st ws ce sl := by
  subst hnx
  subst hst
  obtain ⟨p, e, s, m, args, below, meth, c, A, Q⟩ := x
  obtain ⟨hx, hb, hml, hown, hts, hK, hA, hE⟩ := C
  intro H locs ls hP hD hS hl
  refine W.objInit hx hb hown (hts _ h1) (hts _ h2) (hts _ h3) rfl (by rw [hml]; exact hl.1) rfl hdg hf ?_ ?_
  · show 2 * 0 + _ + 12 ≤ _
    omega
  · exact k H locs ls hP hD hS hl
/-- a final field, in its constructor -/
theorem zv_putF (C : zv_C x (l, R, D, cl, tys, nL, cc, own, Ts)) (hin : zv_nm x "<init>") {index a : Nat} {v : Value} (q0 ci k kd : Nat) {Cn : String} {T : u_T} {N : Nat} {fs : List Value} (hc : cl[ci]? = some (Cn, T, N)) (hf : zv_fld own Ts cl index ci k = true) (hfit : zv_fit (cl.map fun q => (q.1, (fun k => ((q.2.1 k).1, (q.2.1 k).2.1, (q.2.1 k).2.2.1, false)), q.2.2)) ci k kd = true) (hfin : (T k).2.2.2 = true) (hdecl : (T k).1 = own) (hkd : zv_kd kd v = true) (hst : st = v :: .ref a :: rest) (hw : ws[q0]? = some (a, .inr (ci, fs))) (hlt : k < fs.length) (hdg : decode cc pc = .ok (.putfield index, 3)) (hnx : pc + 3 = nx)
    (kk : zv_V x (l, R, D, cl, tys, nL, cc, own, Ts) nx lv rest (ws.set q0 (a, .inr (ci, fs.set k v))) ce sl) : zv_V x (l, R, D, cl, tys, nL, cc, own, Ts) pc lv st ws ce sl := by
  subst hnx
  subst hst
  obtain ⟨p, e, s, m, args, below, meth, c, A, Q⟩ := x
  obtain ⟨hx, hb, hml, hown, hts, hK, hA, hE⟩ := C
  obtain ⟨C1, T1, N1, hc1, hk, hlk, hin1⟩ := zv_fld_e hf
  cases hc.symm.trans hc1
  have hc2 : (cl.map fun q => ((q.1, (fun k => ((q.2.1 k).1, (q.2.1 k).2.1, (q.2.1 k).2.2.1, false)), q.2.2) : vw_C))[ci]? = some (Cn, (fun k => ((T k).1, (T k).2.1, (T k).2.2.1, false)), N) := by
    rw [List.getElem?_map, hc]; rfl
  obtain ⟨ty, hty0, hnm, -, hty, hn, hfit⟩ := zv_fit_e hc2 hk hfit hkd
  intro H locs ls hP hD hS hl
  exact va_putF hx hb hts hin1 (zv_ty T) hty0 hnm hown hK hP hD hS q0 hw hc k hk (hts _ hlk) (fun _ h9 => h9) hfin hin hdecl hty hn hfit hlt hdg (fun H locs hP hD hS => kk H locs ls hP hD hS hl)
end ZN
end
