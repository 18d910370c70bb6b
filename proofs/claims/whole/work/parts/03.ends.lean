/-! ENTRY, RETURN, NEW, ARRAYS over the walking layer -/
def zv_rok (cc : ByteArray) (pc : Nat) : Option FieldType → Option Value → Prop
  | none, none => decode cc pc = .ok (.return_, 1)
  | some .int, some (.int _) => decode cc pc = .ok (.ireturn, 1)
  | some .boolean, some (.int v) => narrow .boolean (.int v) = .int v ∧ decode cc pc = .ok (.ireturn, 1)
  | some .long, some (.long _) => decode cc pc = .ok (.lreturn, 1)
  | some (.array _), some (.ref _) => decode cc pc = .ok (.areturn, 1)
  | _, _ => False
/-- the end of a method: its answer, its cells by their places -/
def zv_Rt {S : Type} (x : zv_X) (g : zv_G) (rt : Option FieldType) (rm : Room) (post : S → Prop) (ret : S → Option Value) (w1 : S → va_W) : Prop :=
  ∀ (u : S) (pc : Nat) (lv : zv_L) (ws : va_W) (ce sl : Nat) (is : List Nat), post u → is.map (fun i => ws[i]?) = (w1 u).map some → va_nd is = true → ce ≤ rm.cells → sl ≤ rm.slots → zv_rok g.2.2.2.2.2.2.1 pc rt (ret u) → zv_V x g pc lv (ret u).toList ws ce sl
def zv_nm (x : zv_X) (nm : String) : Prop := x.2.2.2.2.2.2.1.name = nm
set_option maxHeartbeats 1000000 in
theorem zv_of {S : Type} {l : Launch} {D : va_G} {cl : List vw_C} {tys : List (ClassId × FieldType)} {y : MethodName} {wds ws' Ts : List Jvm.Cond} {rm : Room} {ar : List Value} {wc : va_W} {post : S → Prop} {ret : S → Option Value} {w1 : S → va_W} {cc : ByteArray} {maxL : Nat} {rt : Option FieldType}
    (hy : plainName y.cls = true) (hw : wds = Jvm.Cond.code y cc maxL rt :: ws') (hsub : ∀ w ∈ Ts, w ∈ wds) (hct : zv_cl cl Ts = true) (hlen : (lg_sl ar).length ≤ maxL)
    (body : ∀ x : zv_X, zv_C x (l, rm, D, cl, tys, maxL, cc, y.cls, Ts) → zv_Rt x (l, rm, D, cl, tys, maxL, cc, y.cls, Ts) rt rm post ret w1 → zv_nm x y.name → zv_V x (l, rm, D, cl, tys, maxL, cc, y.cls, Ts) 0 (lv_args 0 ar) [] wc 0 0) : zv_M l D cl tys y wds rm ar wc post ret w1 := by
  intro sz
  refine Met.ofW (cc := cc) (maxL := maxL) (ret := rt) hy hw ?_
  intro p e s m args below meth c s₁ B hml hv
  obtain ⟨rfl, hsz, hP, hK, hD0, hE⟩ := hv
  subst hsz
  have hx := B.exec
  have hb := B.bytes
  have hr := B.returns
  have hts := atoms_spec (ws := wds) B.pre
  have hown : s.vm.findClass y.cls = some m.cls := findClass_of_methodNamed B.named
  have hlocks := B.notSynchronized
  have hin : meth.name = y.name := (name_of_methodNamed B.named B.method).1
  have hD := hD0.self (sz := s.heap.size)
  have hA : ∀ q : Nat, s.heap.size ≤ q → va_A wc s.heap.size q := fun q h => Or.inr h
  have hl := lv_entry ar (n := maxL) hlen
  rw [lg_entry_eq]
  refine body (p, e, s, m, ar.toArray, below, meth, c, va_A wc s.heap.size, MQ below (zv_Post D cl tys wc s.heap.size post ret w1) ar.toArray s rm.cells rm.slots (va_A wc s.heap.size)) ⟨hx, hb, hml, hown, fun w h => hts w (hsub w h), hK, hA, hE, hct⟩ ?_ hin s.heap [] _ hP hD va_S.rf hl
  intro u pc lv ws ce sl is hp hC hnd hce hsl hrok H locs ls hP hD hS hl
  refine W.widen (k := rm.cells) (n := rm.slots) hce hsl ?_
  have hq : ∀ t : State, t.heap = H → s.WarmedH t.vm → zv_Post D cl tys wc s.heap.size post ret w1 ar.toArray s (.returned (ret u)) t := fun t ht hW => ⟨⟨u, rfl, hp, by rw [ht]; exact hP.sub is (zv_sub is hC), va_K.moved hW.alike hK, hD.sub is hnd hC⟩, hS.F ht⟩
  generalize hru : ret u = r at hrok hq ⊢
  match rt, r, hrok, hr with
  | none, none, h, hr => exact W.vret hx hb hr hq hS.2.2 h hlocks
  | some .int, some (.int v), h, hr => exact W.iret hx hb hr hq hS.2.2 h hlocks
  | some .boolean, some (.int v), h, hr => exact W.zret hx hb hr h.1 hq hS.2.2 h.2 hlocks
  | some .long, some (.long v), h, hr => exact W.lret hx hb hr hq hS.2.2 h hlocks
  | some (.array t), some (.ref v), h, hr => exact W.aret hx hb hr (Or.inr ⟨t, rfl⟩) (Or.inr ⟨v, rfl⟩) hq hS.2.2 h hlocks
section ZN
variable {x : zv_X} {l : Launch} {R : Room} {D : va_G} {cl : List vw_C} {tys : List (ClassId × FieldType)} {nL : Nat} {cc : ByteArray} {own : String} {Ts : List Jvm.Cond}
variable {pc nx : Nat} {lv lv' : zv_L} {st rest : List Value} {ws ws' : va_W} {ce sl ce' sl' : Nat}
/-- fewer locals known, more room taken -/
theorem zv_drop (C : zv_C x (l, R, D, cl, tys, nL, cc, own, Ts)) (ks : List Nat) (h : lv_pick lv ks = lv') (k : zv_V x (l, R, D, cl, tys, nL, cc, own, Ts) pc lv' st ws ce sl) : zv_V x (l, R, D, cl, tys, nL, cc, own, Ts) pc lv st ws ce sl := by
  obtain ⟨p, e, s, m, args, below, meth, c, A, Q⟩ := x
  intro H locs ls hP hD hS hl
  exact k H locs ls hP hD hS (lv_sub hl ks h)
theorem zv_wide (C : zv_C x (l, R, D, cl, tys, nL, cc, own, Ts)) (h1 : ce ≤ ce') (h2 : sl ≤ sl') (k : zv_V x (l, R, D, cl, tys, nL, cc, own, Ts) pc lv st ws ce' sl') : zv_V x (l, R, D, cl, tys, nL, cc, own, Ts) pc lv st ws ce sl := by
  obtain ⟨p, e, s, m, args, below, meth, c, A, Q⟩ := x
  intro H locs ls hP hD hS hl
  exact W.widen h1 h2 (k H locs ls hP hD hS hl)
/-- fewer cells, or in another order -/
theorem zv_cells (C : zv_C x (l, R, D, cl, tys, nL, cc, own, Ts)) (is : List Nat) (hn : va_nd is = true) (h : is.map (fun i => ws[i]?) = ws'.map some) (k : zv_V x (l, R, D, cl, tys, nL, cc, own, Ts) pc lv st ws' ce sl) : zv_V x (l, R, D, cl, tys, nL, cc, own, Ts) pc lv st ws ce sl := by
  obtain ⟨p, e, s, m, args, below, meth, c, A, Q⟩ := x
  intro H locs ls hP hD hS hl
  exact k H locs ls (hP.sub is (zv_sub is h)) (hD.sub is hn h) hS hl
/-- the words of 'new' -/
def zv_nwk (own : String) (Ts : List Jvm.Cond) (cl : List vw_C) (index ci : Nat) : Bool := match cl[ci]? with
  | some (C, _, N) => decide (Jvm.Cond.classLink own index C ∈ Ts) && (decide (Jvm.Cond.instantiable C N ∈ Ts) && decide (Jvm.Cond.initialized C ∈ Ts))
  | none => false
theorem zv_new (C : zv_C x (l, R, D, cl, tys, nL, cc, own, Ts)) {index ci : Nat} {Cn : String} {T : u_T} {N : Nat} {fs : List Value} (hc : cl[ci]? = some (Cn, T, N)) (hk : zv_nwk own Ts cl index ci = true) (hfs : (List.range N).map (fun j => defaultValue (zv_ty T j)) = fs) (hdg : decode cc pc = .ok (.new index, 3)) (hcells : ce + 1 ≤ R.cells) (hslots : sl + N ≤ R.slots) (hnx : pc + 3 = nx)
    (k : ∀ q : Nat, zv_V x (l, R, D, cl, tys, nL, cc, own, Ts) nx lv (.ref q :: st) (ws ++ [(q, .inr (ci, fs))]) (ce + 1) (sl + N)) : zv_V x (l, R, D, cl, tys, nL, cc, own, Ts) pc lv st ws ce sl := by
  subst hnx
  unfold zv_nwk at hk
  rw [hc] at hk
  simp only [Bool.and_eq_true, decide_eq_true_eq] at hk
  obtain ⟨h1, h2, h3⟩ := hk
  obtain ⟨p, e, s, m, args, below, meth, c, A, Q⟩ := x
  obtain ⟨hx, hb, hml, hown, hts, hK, hA, hE, hct⟩ := C
  intro H locs ls hP hD hS hl
  obtain ⟨h4, hty0, -⟩ := zv_cl_e hct hc
  refine va_new (ci := ci) (fs := fs) hx hb hts h4 (zv_ty T) hty0 hown (hts _ h1) (hts _ h2) (hts _ h3) hK hP hD hS hA hc (fun j hj => ?_) hcells hslots hdg (fun q H hP hD hS => k q H locs ls hP hD hS hl)
  rw [← hfs]
  simp [vp_V, hj]
theorem zv_arr1 {s : State} {c1 c2 : ClassId} {ty : FieldType} {kd : Nat} (hty : ty = zv_k2t kd) (h1 : va_RA s c1 ty) (h2 : va_RA s c2 ty) : c1 = c2 := by
  subst hty
  have e : ∀ kd, va_RA s c1 (zv_k2t kd) → va_RA s c2 (zv_k2t kd) → c1 = c2 := by
    intro kd h1 h2
    unfold zv_k2t at h1 h2
    cases h3 : Nat.beq kd 0 with
    | true => rw [h3] at h1 h2; exact Option.some.inj (h1.symm.trans h2)
    | false =>
      cases h4 : Nat.beq kd 1 with
      | true => rw [h3, h4] at h1 h2; exact Option.some.inj (h1.symm.trans h2)
      | false =>
        cases h5 : Nat.beq kd 2 with
        | true => rw [h3, h4, h5] at h1 h2; exact Option.some.inj (h1.symm.trans h2)
        | false => rw [h3, h4, h5] at h1 h2; exact Option.some.inj (h1.symm.trans h2)
  exact e kd h1 h2
theorem zv_newa (C : zv_C x (l, R, D, cl, tys, nL, cc, own, Ts)) {atype : ArrayType} (kd t0 : Nat) {cA : ClassId} {N' : Nat} {a0 : vp_A} {n : Int32} (hty : newarray.typeOf atype = zv_k2t kd) (harr : Jvm.Cond.arrayClass (newarray.typeOf atype) ∈ Ts) (ht : tys[t0]? = some (cA, zv_k2t kd)) (ha : ∀ cA : ClassId, vp_cell cA a0 = arrV cA N' (fun _ => defaultValue (zv_k2t kd)))
    (hst : st = .int n :: rest) (hn : ¬ n < 0) (hN : n.toNatClampNeg = N') (hbytes : N' * componentBytes (zv_k2t kd) ≤ 536870912) (hdg : decode cc pc = .ok (.newarray atype, 2)) (hcells : ce + 1 ≤ R.cells) (hslots : sl + N' ≤ R.slots) (hnx : pc + 2 = nx)
    (k : ∀ q : Nat, zv_V x (l, R, D, cl, tys, nL, cc, own, Ts) nx lv (.ref q :: rest) (ws ++ [(q, .inl (cA, a0))]) (ce + 1) (sl + N')) : zv_V x (l, R, D, cl, tys, nL, cc, own, Ts) pc lv st ws ce sl := by
  subst hnx
  subst hst
  obtain ⟨p, e, s, m, args, below, meth, c, A, Q⟩ := x
  obtain ⟨hx, hb, hml, hown, hts, hK, hA, hE, hct⟩ := C
  intro H locs ls hP hD hS hl
  refine va_newa hx hb (hts _ harr) hty hK hP hD hS hA ha hn hN hbytes hcells hslots hdg (fun q c1 H1 hK1 hP hD hS => ?_)
  have e1 : c1 = cA := zv_arr1 rfl (hK1.2 tys.length (c1, zv_k2t kd) (by simp)).2 (hK.2 t0 _ ht).2
  subst e1
  exact k q H1 locs ls hP hD hS hl
theorem zv_objInit (C : zv_C x (l, R, D, cl, tys, nL, cc, own, Ts)) {index a : Nat} (h1 : Jvm.Cond.methodLink own index objectInit ∈ Ts) (h2 : Jvm.Cond.instanceMethod objectInit ∈ Ts) (h3 : Jvm.Cond.code objectInit ⟨#[0xb1]⟩ 1 none ∈ Ts) (hst : st = .ref a :: rest) (hdg : decode cc pc = .ok (.invokespecial index, 3)) (hf : 1 ≤ R.frames) (hloc : (rest.map fun v => v.category).sum + 12 ≤ R.locals) (hnx : pc + 3 = nx)
    (k : zv_V x (l, R, D, cl, tys, nL, cc, own, Ts) nx lv rest ws ce sl) : zv_V x (l, R, D, cl, tys, nL, cc, own, Ts) pc lv st ws ce sl := by
  subst hnx
  subst hst
  obtain ⟨p, e, s, m, args, below, meth, c, A, Q⟩ := x
  obtain ⟨hx, hb, hml, hown, hts, hK, hA, hE, hct⟩ := C
  intro H locs ls hP hD hS hl
  refine W.objInit hx hb hown (hts _ h1) (hts _ h2) (hts _ h3) rfl (by rw [hml]; exact hl.1) rfl hdg hf ?_ ?_
  · show 2 * 0 + _ + 12 ≤ _
    omega
  · exact k H locs ls hP hD hS hl
/-- a final field, in its constructor -/
theorem zv_putF (C : zv_C x (l, R, D, cl, tys, nL, cc, own, Ts)) (hin : zv_nm x "<init>") {index a : Nat} {v : Value} (q0 ci k kd : Nat) {Cn : String} {T : u_T} {N : Nat} {fs : List Value} (hc : cl[ci]? = some (Cn, T, N)) (hf : (zv_fld own Ts cl index ci k && (zv_fit cl ci k kd && zv_fin cl ci k true)) = true) (hdecl : (T k).1 = own) (hkd : zv_kd kd v = true) (hst : st = v :: .ref a :: rest) (hw : ws[q0]? = some (a, .inr (ci, fs))) (hlt : k < fs.length) (hdg : decode cc pc = .ok (.putfield index, 3)) (hnx : pc + 3 = nx)
    (kk : zv_V x (l, R, D, cl, tys, nL, cc, own, Ts) nx lv rest (ws.set q0 (a, .inr (ci, fs.set k v))) ce sl) : zv_V x (l, R, D, cl, tys, nL, cc, own, Ts) pc lv st ws ce sl := by
  subst hnx
  subst hst
  obtain ⟨p, e, s, m, args, below, meth, c, A, Q⟩ := x
  obtain ⟨hx, hb, hml, hown, hts, hK, hA, hE, hct⟩ := C
  simp only [Bool.and_eq_true] at hf
  obtain ⟨hf, hfit, hfin⟩ := hf
  obtain ⟨C1, T1, N1, hc1, hk, hlk⟩ := zv_fld_e hf
  cases hc.symm.trans hc1
  obtain ⟨hin1, hty0, hnm⟩ := zv_cl_e hct hc
  obtain ⟨ty, hty, hn, hfit⟩ := zv_fit_e hc hfit hkd
  intro H locs ls hP hD hS hl
  exact va_putF hx hb hts hin1 (zv_ty T) hty0 hnm hown hK hP hD hS q0 hw hc k hk (hts _ hlk) (fun _ h9 => h9) (zv_fin_e hc hfin) hin hdecl hty hn hfit hlt hdg (fun H locs hP hD hS => kk H locs ls hP hD hS hl)
end ZN
