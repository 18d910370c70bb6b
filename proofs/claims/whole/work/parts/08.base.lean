/-! THE CLAIM'S OWN WORDS: K = the launch, the classes' numbers, the array classes -/
abbrev zK : Type := Launch × va_G × ClassId × ClassId × ClassId × ClassId
abbrev cI (K : zK) : ClassId := K.2.2.1
abbrev cJ (K : zK) : ClassId := K.2.2.2.1
abbrev cB (K : zK) : ClassId := K.2.2.2.2.1
abbrev cZ (K : zK) : ClassId := K.2.2.2.2.2
abbrev tz (K : zK) : List (ClassId × FieldType) := [(cI K, .int), (cJ K, .long), (cB K, .byte), (cZ K, .boolean)]
abbrev gz (K : zK) (rm : Room) (n : Nat) (c : ByteArray) (own : String) : zv_G := (K.1, rm, K.2.1, vwCl, tz K, n, c, own, zt)
/-- a contract with some state of answers S -/
abbrev zM {S : Type} (K : zK) (y : MethodName) (c : ByteArray) (n : Nat) (r : Option FieldType) (rm : Room) (ar : List Value) (wc : va_W) (post : S → Prop) (ret : S → Option Value) (w1 : S → va_W) : Prop := zv_M K.1 K.2.1 vwCl (tz K) y (zw y c n r) rm ar wc post ret w1
/-- a contract with one answer -/
abbrev zD (K : zK) (y : MethodName) (c : ByteArray) (n : Nat) (r : Option FieldType) (rm : Room) (ar : List Value) (wc : va_W) (ret : Option Value) (w1 : va_W) : Prop := zM (S := Unit) K y c n r rm ar wc (fun _ => True) (fun _ => ret) (fun _ => w1)
theorem zo {S : Type} {K : zK} {y : MethodName} {rm : Room} {ar : List Value} {wc : va_W} {post : S → Prop} {ret : S → Option Value} {w1 : S → va_W} {cc : ByteArray} {maxL : Nat} {rt : Option FieldType} (hy : plainName y.cls = true) (hlen : (lg_sl ar).length ≤ maxL)
    (body : ∀ x : zv_X, zv_C x (gz K rm maxL cc y.cls) → zv_Rt x (gz K rm maxL cc y.cls) rt rm post ret w1 → zv_nm x y.name → zv_V x (gz K rm maxL cc y.cls) 0 (lv_args 0 ar) [] wc 0 0) : zM K y cc maxL rt rm ar wc post ret w1 :=
  zv_of hy rfl (fun w h => List.mem_cons_of_mem _ h) zt_cl hlen body
theorem zr {S : Type} {x : zv_X} {g : zv_G} {rt : Option FieldType} {rm : Room} {post : S → Prop} {ret : S → Option Value} {w1 : S → va_W} (R : zv_Rt x g rt rm post ret w1) (u : S) (is : List Nat) (r : Option Value) (w : va_W) {pc : Nat} {lv : zv_L} {ws : va_W} {ce sl : Nat} (e : ret u = r) (ew : w1 u = w) (hp : post u) (hw : is.map (fun i => ws[i]?) = w.map some) (hn : va_nd is = true) (hc : ce ≤ rm.cells) (hs : sl ≤ rm.slots) (hk : zv_rok g.2.2.2.2.2.2.1 pc rt r) : zv_V x g pc lv r.toList ws ce sl := by
  subst e
  subst ew
  exact R u pc lv ws ce sl is hp hw hn hc hs hk
/-- truth as the machine has it -/
def bI (b : Bool) : Int32 := bif b then 1 else 0
theorem bI_0 {b : Bool} : bI b = 0 ↔ b = false := by cases b <;> simp [bI]
theorem bI_1 {b : Bool} : ¬ bI b = 0 ↔ b = true := by cases b <;> simp [bI]
theorem bI_nar (b : Bool) : narrow .boolean (.int (bI b)) = .int (bI b) := by cases b <;> rfl
abbrev zq (f c s l : Nat) : Room := { frames := f, cells := c, slots := s, locals := l }
section ZX
variable {x : zv_X} {l : Launch} {R : Room} {D : va_G} {cl : List vw_C} {tys : List (ClassId × FieldType)} {nL : Nat} {cc : ByteArray} {own : String} {Ts : List Jvm.Cond}
variable {pc pc' : Nat} {lv lv' : zv_L} {st st' : List Value} {ws ws' : va_W} {ce sl ce' sl' : Nat}
theorem zv_to (C : zv_C x (l, R, D, cl, tys, nL, cc, own, Ts)) (e1 : lv = lv') (e2 : st = st') (e3 : ws = ws') (k : zv_V x (l, R, D, cl, tys, nL, cc, own, Ts) pc lv' st' ws' ce sl) : zv_V x (l, R, D, cl, tys, nL, cc, own, Ts) pc lv st ws ce sl := by
  subst e1
  subst e2
  subst e3
  exact k
theorem zv_arrV {cA : ClassId} {n : Nat} {f g : Nat → Value} (h : ∀ j, j < n → f j = g j) : arrV cA n f = arrV cA n g := by
  unfold arrV
  have e : (Array.ofFn fun i : Fin n => f i.val) = Array.ofFn fun i : Fin n => g i.val := by
    congr 1
    funext i
    exact h i.val i.isLt
  first | rw [e] | simp only [e] | (congr 1)
/-- an array's contents, as far as it is long -/
theorem zv_exI (C : zv_C x (l, R, D, cl, tys, nL, cc, own, Ts)) (q0 : Nat) {a : Nat} {cA : ClassId} {n : Nat} {f : Nat → Int32} (g : Nat → Int32) (hw : ws[q0]? = some (a, .inl (cA, n, .inl f))) (hfg : ∀ j, j < n → f j = g j) (k : zv_V x (l, R, D, cl, tys, nL, cc, own, Ts) pc lv st (ws.set q0 (a, .inl (cA, n, .inl g))) ce sl) : zv_V x (l, R, D, cl, tys, nL, cc, own, Ts) pc lv st ws ce sl := by
  obtain ⟨p, e, s, m, args, below, meth, c, A, Q⟩ := x
  intro H locs ls hP hD hS hl
  refine k H locs ls (hP.set hD hw ?_ (fun _ _ => rfl)) (hD.set hw) hS hl
  have h1 := hP q0 _ hw
  have h2 : vp_cell cA (n, .inl f) = vp_cell cA (n, .inl g) := by
    show arrV cA n (fun j => Value.int (f j)) = arrV cA n (fun j => Value.int (g j))
    exact zv_arrV (fun j hj => by rw [hfg j hj])
  show H[a]? = some (vp_cell cA (n, .inl g))
  rw [← h2]
  exact h1
theorem zv_exL (C : zv_C x (l, R, D, cl, tys, nL, cc, own, Ts)) (q0 : Nat) {a : Nat} {cA : ClassId} {n : Nat} {f : Nat → Int64} (g : Nat → Int64) (hw : ws[q0]? = some (a, .inl (cA, n, .inr (.inl f)))) (hfg : ∀ j, j < n → f j = g j) (k : zv_V x (l, R, D, cl, tys, nL, cc, own, Ts) pc lv st (ws.set q0 (a, .inl (cA, n, .inr (.inl g)))) ce sl) : zv_V x (l, R, D, cl, tys, nL, cc, own, Ts) pc lv st ws ce sl := by
  obtain ⟨p, e, s, m, args, below, meth, c, A, Q⟩ := x
  intro H locs ls hP hD hS hl
  refine k H locs ls (hP.set hD hw ?_ (fun _ _ => rfl)) (hD.set hw) hS hl
  have h1 := hP q0 _ hw
  have h2 : vp_cell cA (n, .inr (.inl f)) = vp_cell cA (n, .inr (.inl g)) := by
    show arrV cA n (fun j => Value.long (f j)) = arrV cA n (fun j => Value.long (g j))
    exact zv_arrV (fun j hj => by rw [hfg j hj])
  show H[a]? = some (vp_cell cA (n, .inr (.inl g)))
  rw [← h2]
  exact h1
end ZX
