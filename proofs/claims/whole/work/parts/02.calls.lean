/-! CONTRACTS, CALLS, ENDS over the walking layer -/
theorem zv_E.moved {s U : State} (hW : s.WarmedH U.vm) (h : zv_E s) : zv_E U := fun q hq => va_Nw.warmM hW (h q hq)
theorem zv_E.same {u U : State} (hv : u.vm = U.vm) (h : zv_E u) : zv_E U := fun q hq => va_Nw.same rfl hv (h q hq)
/-- a method's start: its arguments, its world's cells, the tables -/
def zv_Pre (D : va_G) (cl : List vw_C) (tys : List (ClassId × FieldType)) (ar : List Value) (wc : va_W) (sz : Nat) : Array Value → State → Prop := va_Pc ar (fun U => U.heap.size = sz ∧ va_P D cl wc U.heap ∧ va_K D cl tys U ∧ va_D (fun _ => True) wc ∧ zv_E U)
def zv_Post {S : Type} (D : va_G) (cl : List vw_C) (tys : List (ClassId × FieldType)) (wc : va_W) (sz : Nat) (post : S → Prop) (ret : S → Option Value) (w1 : S → va_W) : Array Value → State → Outcome → State → Prop := fun _ st oc t => (∃ u : S, oc = .returned (ret u) ∧ post u ∧ va_P D cl (w1 u) t.heap ∧ va_K D cl tys t ∧ va_D (va_A wc sz) (w1 u)) ∧ va_F (va_A wc sz) st t
/-- THE CONTRACT: from the world wc with the arguments ar it returns 'ret u', its cells are 'w1 u' -/
def zv_M {S : Type} (l : Launch) (D : va_G) (cl : List vw_C) (tys : List (ClassId × FieldType)) (y : MethodName) (wds : List Jvm.Cond) (rm : Room) (ar : List Value) (wc : va_W) (post : S → Prop) (ret : S → Option Value) (w1 : S → va_W) : Prop :=
  ∀ sz : Nat, Met l y wds rm (zv_Pre D cl tys ar wc sz) (zv_Post D cl tys wc sz post ret w1) rm.cells rm.slots (va_A wc sz)
theorem zv_Pre_blind {D : va_G} {cl : List vw_C} {tys : List (ClassId × FieldType)} {ar : List Value} {wc : va_W} {sz : Nat} : FrameBlind (zv_Pre D cl tys ar wc sz) := by
  intro a U g mk q
  obtain ⟨q0, q1, qP, qK, qD, qE⟩ := q
  exact ⟨q0, q1, qP, va_K.moved (u := U) (U := U.calling g mk a) (Vm.Alike.refl U.vm) qK, qD, qE.same rfl⟩
/-- cells put back in their places, new ones behind -/
def zv_put : va_W → List Nat → va_W → va_W
  | ws, [], w1 => ws ++ w1
  | ws, _ :: _, [] => ws
  | ws, i :: is, q :: w1 => zv_put (ws.set i q) is w1
/-- where the j-th cell of the callee's goes -/
def zv_pos (n : Nat) : List Nat → Nat → Nat
  | [], j => n + j
  | i :: _, 0 => i
  | _ :: is, j + 1 => zv_pos n is j
theorem zv_pos_nil (n j : Nat) : zv_pos n [] j = n + j := by cases j <;> rfl
theorem zv_put_spec : ∀ (is : List Nat) (ws w1 : va_W), is.length ≤ w1.length → (∀ i ∈ is, i < ws.length) → ∀ (k : Nat) (q : Nat × va_E), (zv_put ws is w1)[k]? = some q → (∃ j, w1[j]? = some q ∧ k = zv_pos ws.length is j) ∨ (k ∉ is ∧ ws[k]? = some q)
  | [], ws, w1, _, _, k, q, h => by
    have h : (ws ++ w1)[k]? = some q := by
      cases w1 with
      | nil => exact h
      | cons a b => exact h
    by_cases hl : k < ws.length
    · rw [List.getElem?_append_left hl] at h
      exact Or.inr ⟨List.not_mem_nil, h⟩
    · rw [List.getElem?_append_right (by omega)] at h
      exact Or.inl ⟨k - ws.length, h, by rw [zv_pos_nil]; omega⟩
  | i :: is, ws, [], hn, _, k, q, h => absurd hn (by simp)
  | i :: is, ws, r :: w1, hn, hi, k, q, h => by
    have hil : i < ws.length := hi i List.mem_cons_self
    have h : (zv_put (ws.set i r) is w1)[k]? = some q := h
    rcases zv_put_spec is (ws.set i r) w1 (by simpa using hn) (fun j hj => by rw [List.length_set]; exact hi j (List.mem_cons_of_mem _ hj)) k q h with ⟨j, h1, h2⟩ | ⟨h1, h2⟩
    · refine Or.inl ⟨j + 1, h1, ?_⟩
      rw [List.length_set] at h2
      exact h2
    · by_cases hk : k = i
      · subst hk
        rw [List.getElem?_set_self hil] at h2
        exact Or.inl ⟨0, h2, rfl⟩
      · rw [List.getElem?_set_ne (Ne.symm hk)] at h2
        refine Or.inr ⟨fun hm => ?_, h2⟩
        rcases List.mem_cons.mp hm with e | e
        · exact hk e
        · exact h1 e
theorem zv_pos_ge (n : Nat) : ∀ (is : List Nat) (j : Nat), (zv_pos n is j ∈ is ∧ j < is.length) ∨ (n ≤ zv_pos n is j ∧ is.length ≤ j)
  | [], j => Or.inr ⟨by rw [zv_pos_nil]; omega, Nat.zero_le _⟩
  | i :: is, 0 => Or.inl ⟨List.mem_cons_self, by simp⟩
  | i :: is, j + 1 => by
    rcases zv_pos_ge n is j with ⟨h1, h2⟩ | ⟨h1, h2⟩
    · exact Or.inl ⟨List.mem_cons_of_mem _ h1, by simpa using h2⟩
    · exact Or.inr ⟨h1, by simpa using h2⟩
theorem zv_pos_inj (n : Nat) : ∀ (is : List Nat), va_nd is = true → (∀ i ∈ is, i < n) → ∀ (a b : Nat), zv_pos n is a = zv_pos n is b → a = b
  | [], _, _, a, b, h => by rw [zv_pos_nil, zv_pos_nil] at h; omega
  | i :: is, hn, hi, 0, 0, _ => rfl
  | i :: is, hn, hi, 0, b + 1, h => by
    simp only [va_nd, Bool.and_eq_true, decide_eq_true_eq] at hn
    have h : i = zv_pos n is b := h
    rcases zv_pos_ge n is b with ⟨h1, -⟩ | ⟨h1, -⟩
    · exact absurd (h ▸ h1) hn.1
    · have := hi i List.mem_cons_self
      omega
  | i :: is, hn, hi, a + 1, 0, h => by
    simp only [va_nd, Bool.and_eq_true, decide_eq_true_eq] at hn
    have h : zv_pos n is a = i := h
    rcases zv_pos_ge n is a with ⟨h1, -⟩ | ⟨h1, -⟩
    · exact absurd (h ▸ h1) hn.1
    · have := hi i List.mem_cons_self
      omega
  | i :: is, hn, hi, a + 1, b + 1, h => by
    simp only [va_nd, Bool.and_eq_true, decide_eq_true_eq] at hn
    have h : zv_pos n is a = zv_pos n is b := h
    rw [zv_pos_inj n is hn.2 (fun j hj => hi j (List.mem_cons_of_mem _ hj)) a b h]
/-- behind a call: the world with the callee's cells put back -/
theorem zv_join {A0 : Nat → Prop} {D : va_G} {cl : List vw_C} {ws wc w1 : va_W} {H H1 : Heap} (hP : va_P D cl ws H) (hD : va_D A0 ws) (isC : List Nat) (hC : isC.map (fun i => ws[i]?) = wc.map some) (hn : va_nd isC = true) (hle : isC.length ≤ w1.length)
    (hk : ∀ q : Nat, q < H.size → ¬ va_A wc H.size q → H1[q]? = H[q]?) (hF : ∀ q, va_A wc H.size q → A0 q) (hP1 : va_P D cl w1 H1) (hD1 : va_D (va_A wc H.size) w1) : va_P D cl (zv_put ws isC w1) H1 ∧ va_D A0 (zv_put ws isC w1) := by
  have hil : ∀ i ∈ isC, i < ws.length := by
    intro i hi
    have h1 : ws[i]? ∈ wc.map some := by rw [← hC]; exact List.mem_map.mpr ⟨i, hi, rfl⟩
    obtain ⟨q, -, hq⟩ := List.mem_map.mp h1
    exact (List.getElem?_eq_some_iff.mp hq.symm).1
  have apart : ∀ (k : Nat) (q : Nat × va_E), k ∉ isC → ws[k]? = some q → q.1 < H.size ∧ ¬ va_A wc H.size q.1 := by
    intro k q hk2 hq
    have hl := (hP k q hq).lt
    refine ⟨hl, fun h => ?_⟩
    rcases h with ⟨k2, e, h⟩ | h
    · have h1 : (isC.map (fun i => ws[i]?))[k2]? = some (some (q.1, e)) := by rw [hC, List.getElem?_map, h]; rfl
      rw [List.getElem?_map] at h1
      cases hi : isC[k2]? with
      | none => rw [hi] at h1; cases h1
      | some i =>
        rw [hi] at h1
        have h2 : ws[i]? = some (q.1, e) := Option.some.inj h1
        have hij := hD.1 k i q (q.1, e) hq h2 rfl
        subst hij
        exact hk2 (List.mem_of_getElem? hi)
    · omega
  refine ⟨fun k q hq => ?_, fun i j x y hi hj hxy => ?_, fun k q hq => ?_⟩
  · rcases zv_put_spec isC ws w1 hle hil k q hq with ⟨j, h1, -⟩ | ⟨h1, h2⟩
    · exact hP1 j q h1
    · obtain ⟨g1, g2⟩ := apart k q h1 h2
      exact (hP k q h2).kept (hk q.1 g1 g2)
  · rcases zv_put_spec isC ws w1 hle hil i x hi with ⟨a, h1, h2⟩ | ⟨h1, h2⟩ <;> rcases zv_put_spec isC ws w1 hle hil j y hj with ⟨b, h3, h4⟩ | ⟨h3, h4⟩
    · have := hD1.1 a b x y h1 h3 hxy
      rw [h2, h4, this]
    · exact absurd (by rw [← hxy]; exact hD1.2 a x h1) (apart j y h3 h4).2
    · exact absurd (by rw [hxy]; exact hD1.2 b y h3) (apart i x h1 h2).2
    · exact hD.1 i j x y h2 h4 hxy
  · rcases zv_put_spec isC ws w1 hle hil k q hq with ⟨j, h1, -⟩ | ⟨h1, h2⟩
    · exact hF q.1 (hD1.2 j q h1)
    · exact hD.2 k q h2
section ZC
variable {x : zv_X} {l : Launch} {R : Room} {D : va_G} {cl : List vw_C} {tys : List (ClassId × FieldType)} {nL : Nat} {cc : ByteArray} {own : String} {Ts : List Jvm.Cond}
variable {S : Type} {y : MethodName} {wds : List Jvm.Cond} {rm : Room} {wc : va_W} {post : S → Prop} {ret : S → Option Value} {w1 : S → va_W} {As : List Value} {pc nx : Nat} {lv : zv_L} {st rest : List Value} {ws : va_W} {ce sl index maxL n : Nat} {bytes : ByteArray} {rt : Option FieldType}
/-- what a run of a call gives, in the walking layer's words -/
theorem zv_back {p : Program} {e : Env} {s : State} {m : MethodId} {args : Array Value} {below : List Frame} {meth : Method} {c : Code} {A : Nat → Prop} {Q : State → Prop} {H : Heap} {locs : List Loc} {ls : Array Slot} {a0 : Array Value}
    (hK : va_K D cl tys s) (hP : va_P D cl ws H) (hD : va_D A ws) (hS : va_S A s.heap H locs) (hl : lv_has ls nL lv) (hA : ∀ q, s.heap.size ≤ q → A q)
    (hr : va_Run p l e R s m args below meth c H locs ce sl rm.cells rm.slots (F0 m pc ls st) rest (zv_Post D cl tys wc H.size post ret w1 a0) (va_A wc H.size))
    (isC : List Nat) (hC : isC.map (fun i => ws[i]?) = wc.map some) (hnd : va_nd isC = true) (hle : ∀ u, isC.length ≤ (w1 u).length)
    (k : ∀ u, post u → zv_V (p, e, s, m, args, below, meth, c, A, Q) (l, R, D, cl, tys, nL, cc, own, Ts) (pc + 3) lv ((ret u).toList ++ rest) (zv_put ws isC (w1 u)) (ce + rm.cells) (sl + rm.slots)) : W p l e R s m args below meth c H locs ce sl Q (F0 m pc ls st) := by
  have hFc := va_free (wc := wc) hD hS hA isC hC
  intro T hT X
  obtain ⟨v, st₀, t, T', L, h0, X', hL, e1, e2, ⟨⟨u, hv, hp, hP1, hK1, hD1⟩, hz, hk⟩, st⟩ := hr T hT X
  cases hv
  rw [h0] at hz hk
  have hkk : ∀ q : Nat, q < H.size → ¬ va_A wc H.size q → T'.heap[q]? = H[q]? := fun q h1 h2 => by rw [e1]; exact hk q h1 h2
  obtain ⟨hP2, hD2⟩ := zv_join hP hD isC hC hnd (hle u) hkk hFc (by rw [e1]; exact hP1) hD1
  obtain ⟨t2, a1, b1⟩ := k u hp T'.heap (locs ++ L) ls hP2 hD2 ⟨Nat.le_trans hS.1 (by rw [e1]; exact hz), fun q h1 h2 => by rw [hkk q (Nat.lt_of_lt_of_le h1 hS.1) (fun z => h2 (hFc q z))]; exact hS.2.1 q h1 h2, fun q hq => by
      rcases List.mem_append.mp hq with h | h
      · exact hS.2.2 q h
      · exact hFc _ (hL q h)⟩ hl T' rfl X'
  exact ⟨t2, st t2 a1, b1⟩
theorem zv_sub {wc ws : va_W} (isC : List Nat) (hC : isC.map (fun i => ws[i]?) = wc.map some) : isC.filterMap (fun i => ws[i]?) = wc := by
  have h := congrArg (List.filterMap id) hC
  rw [List.filterMap_map, List.filterMap_map] at h
  simpa [Function.comp_def] using h
theorem zv_callV (C : zv_C x (l, R, D, cl, tys, nL, cc, own, Ts)) {b : Nat} (hM : zv_M l D cl tys y wds rm (.ref b :: As) wc post ret w1)
    (cw : ∀ (s : State) (args : Array Value), (∀ w ∈ Ts, w.before args s = true) → CallW R s args own y.cls index y bytes maxL rt wds rm rm.cells rm.slots n)
    (isC : List Nat) (q0 : Nat) {ci : Nat} {fs : List Value} {T : u_T} {N : Nat} (hrec : ws[q0]? = some (b, .inr (ci, fs))) (hcl : cl[ci]? = some (y.cls, T, N)) (hC : isC.map (fun i => ws[i]?) = wc.map some) (hnd : va_nd isC = true) (hle : ∀ u, isC.length ≤ (w1 u).length)
    (hst : st = As.reverse ++ .ref b :: rest) (hn : As.length = n) (hrest : (rest.map fun v => v.category).sum ≤ 8) (hdg : decode cc pc = .ok (.invokevirtual index, 3)) (hcells : ce + rm.cells ≤ R.cells) (hslots : sl + rm.slots ≤ R.slots) (hnx : pc + 3 = nx)
    (k : ∀ u, post u → zv_V x (l, R, D, cl, tys, nL, cc, own, Ts) nx lv ((ret u).toList ++ rest) (zv_put ws isC (w1 u)) (ce + rm.cells) (sl + rm.slots)) : zv_V x (l, R, D, cl, tys, nL, cc, own, Ts) pc lv st ws ce sl := by
  subst hnx
  obtain ⟨p, e, s, m, args, below, meth, c, A, Q⟩ := x
  obtain ⟨hx, hb, hml, hown, hts, hK, hA, hE, hct⟩ := C
  intro H locs ls hP hD hS hl
  subst hst
  refine zv_back (cc := cc) (own := own) (Ts := Ts) (nL := nL) hK hP hD hS hl hA (va_runV (As := As) (rest := rest) ⟨hx, hb, hml, hown, hts⟩ (hM H.size) (cw s args hts) ⟨zv_Pre_blind, va_recv hK hP (ci := ci) (q0 := q0) hcl hrec, fun U hU hW => ⟨rfl, by rw [hU], by rw [hU]; exact hP.sub isC (zv_sub isC hC), va_K.moved hW.alike hK, (hD.sub isC hnd hC).weaken (fun _ _ _ _ => trivial), zv_E.moved hW hE⟩⟩ rfl hn hl.1 rfl (lv_room hrest) hdg ⟨hcells, hslots⟩) isC hC hnd hle k
theorem zv_callS (C : zv_C x (l, R, D, cl, tys, nL, cc, own, Ts)) (hM : zv_M l D cl tys y wds rm As wc post ret w1)
    (cw : ∀ (s : State) (args : Array Value), (∀ w ∈ Ts, w.before args s = true) → CallB R s args own index y bytes maxL rt wds rm rm.cells rm.slots n ∧ (Jvm.Cond.static y).before args s = true)
    (isC : List Nat) (hC : isC.map (fun i => ws[i]?) = wc.map some) (hnd : va_nd isC = true) (hle : ∀ u, isC.length ≤ (w1 u).length)
    (hst : st = As.reverse ++ rest) (hn : As.length = n) (hrest : (rest.map fun v => v.category).sum ≤ 8) (hdg : decode cc pc = .ok (.invokestatic index, 3)) (hcells : ce + rm.cells ≤ R.cells) (hslots : sl + rm.slots ≤ R.slots) (hnx : pc + 3 = nx)
    (k : ∀ u, post u → zv_V x (l, R, D, cl, tys, nL, cc, own, Ts) nx lv ((ret u).toList ++ rest) (zv_put ws isC (w1 u)) (ce + rm.cells) (sl + rm.slots)) : zv_V x (l, R, D, cl, tys, nL, cc, own, Ts) pc lv st ws ce sl := by
  subst hnx
  obtain ⟨p, e, s, m, args, below, meth, c, A, Q⟩ := x
  obtain ⟨hx, hb, hml, hown, hts, hK, hA, hE, hct⟩ := C
  intro H locs ls hP hD hS hl
  subst hst
  refine zv_back (cc := cc) (own := own) (Ts := Ts) (nL := nL) hK hP hD hS hl hA (va_runS (As := As) (rest := rest) ⟨hx, hb, hml, hown, hts⟩ (hM H.size) (cw s args hts) ⟨zv_Pre_blind, fun U hU hW => ⟨rfl, by rw [hU], by rw [hU]; exact hP.sub isC (zv_sub isC hC), va_K.moved hW.alike hK, (hD.sub isC hnd hC).weaken (fun _ _ _ _ => trivial), zv_E.moved hW hE⟩⟩ rfl hn hl.1 rfl (lv_room hrest) hdg ⟨hcells, hslots⟩) isC hC hnd hle k
theorem zv_callI (C : zv_C x (l, R, D, cl, tys, nL, cc, own, Ts)) {b : Nat} (hM : zv_M l D cl tys y wds rm (.ref b :: As) wc post ret w1)
    (cw : ∀ (s : State) (args : Array Value), (∀ w ∈ Ts, w.before args s = true) → CallB R s args own index y bytes maxL none wds rm rm.cells rm.slots n ∧ y.name = "<init>" ∧ (Jvm.Cond.instanceMethod y).before args s = true)
    (isC : List Nat) (hC : isC.map (fun i => ws[i]?) = wc.map some) (hnd : va_nd isC = true) (hle : ∀ u, isC.length ≤ (w1 u).length)
    (hst : st = As.reverse ++ .ref b :: rest) (hn : As.length = n) (hrest : (rest.map fun v => v.category).sum ≤ 8) (hdg : decode cc pc = .ok (.invokespecial index, 3)) (hcells : ce + rm.cells ≤ R.cells) (hslots : sl + rm.slots ≤ R.slots) (hnx : pc + 3 = nx)
    (k : ∀ u, post u → zv_V x (l, R, D, cl, tys, nL, cc, own, Ts) nx lv ((ret u).toList ++ rest) (zv_put ws isC (w1 u)) (ce + rm.cells) (sl + rm.slots)) : zv_V x (l, R, D, cl, tys, nL, cc, own, Ts) pc lv st ws ce sl := by
  subst hnx
  obtain ⟨p, e, s, m, args, below, meth, c, A, Q⟩ := x
  obtain ⟨hx, hb, hml, hown, hts, hK, hA, hE, hct⟩ := C
  intro H locs ls hP hD hS hl
  subst hst
  refine zv_back (cc := cc) (own := own) (Ts := Ts) (nL := nL) hK hP hD hS hl hA (va_runI (As := As) (rest := rest) ⟨hx, hb, hml, hown, hts⟩ (hM H.size) (cw s args hts) ⟨zv_Pre_blind, fun U hU hW => ⟨rfl, by rw [hU], by rw [hU]; exact hP.sub isC (zv_sub isC hC), va_K.moved hW.alike hK, (hD.sub isC hnd hC).weaken (fun _ _ _ _ => trivial), zv_E.moved hW hE⟩⟩ rfl hn hl.1 rfl (lv_room hrest) hdg ⟨hcells, hslots⟩) isC hC hnd hle k
theorem zv_callSN (C : zv_C x (l, R, D, cl, tys, nL, cc, own, Ts)) (hM : zv_M l D cl tys y wds rm As wc post ret w1) {host : String} (hlk : (own, index, y, host) ∈ zv_nl)
    (cw : ∀ (s : State) (args : Array Value), (∀ w ∈ Ts, w.before args s = true) → va_Nw (.methodLinkNest own index y host) s → va_CN R s args own index y host bytes maxL rt wds rm rm.cells rm.slots n ∧ (Jvm.Cond.static y).before args s = true ∧ True)
    (isC : List Nat) (hC : isC.map (fun i => ws[i]?) = wc.map some) (hnd : va_nd isC = true) (hle : ∀ u, isC.length ≤ (w1 u).length)
    (hst : st = As.reverse ++ rest) (hn : As.length = n) (hrest : (rest.map fun v => v.category).sum ≤ 8) (hdg : decode cc pc = .ok (.invokestatic index, 3)) (hcells : ce + rm.cells ≤ R.cells) (hslots : sl + rm.slots ≤ R.slots) (hnx : pc + 3 = nx)
    (k : ∀ u, post u → zv_V x (l, R, D, cl, tys, nL, cc, own, Ts) nx lv ((ret u).toList ++ rest) (zv_put ws isC (w1 u)) (ce + rm.cells) (sl + rm.slots)) : zv_V x (l, R, D, cl, tys, nL, cc, own, Ts) pc lv st ws ce sl := by
  subst hnx
  obtain ⟨p, e, s, m, args, below, meth, c, A, Q⟩ := x
  obtain ⟨hx, hb, hml, hown, hts, hK, hA, hE, hct⟩ := C
  intro H locs ls hP hD hS hl
  subst hst
  refine zv_back (cc := cc) (own := own) (Ts := Ts) (nL := nL) hK hP hD hS hl hA (va_runSN (As := As) (rest := rest) ⟨hx, hb, hml, hown, hts⟩ (hM H.size) (cw s args hts (hE _ hlk)) ⟨zv_Pre_blind, fun U hU hW => ⟨rfl, by rw [hU], by rw [hU]; exact hP.sub isC (zv_sub isC hC), va_K.moved hW.alike hK, (hD.sub isC hnd hC).weaken (fun _ _ _ _ => trivial), zv_E.moved hW hE⟩⟩ rfl hn hl.1 rfl (lv_room hrest) hdg ⟨hcells, hslots⟩) isC hC hnd hle k
theorem zv_callIN (C : zv_C x (l, R, D, cl, tys, nL, cc, own, Ts)) {b : Nat} (hM : zv_M l D cl tys y wds rm (.ref b :: As) wc post ret w1) {host : String} (hlk : (own, index, y, host) ∈ zv_nl)
    (cw : ∀ (s : State) (args : Array Value), (∀ w ∈ Ts, w.before args s = true) → va_Nw (.methodLinkNest own index y host) s → va_CN R s args own index y host bytes maxL none wds rm rm.cells rm.slots n ∧ y.name = "<init>" ∧ (Jvm.Cond.instanceMethod y).before args s = true)
    (isC : List Nat) (hC : isC.map (fun i => ws[i]?) = wc.map some) (hnd : va_nd isC = true) (hle : ∀ u, isC.length ≤ (w1 u).length)
    (hst : st = As.reverse ++ .ref b :: rest) (hn : As.length = n) (hrest : (rest.map fun v => v.category).sum ≤ 8) (hdg : decode cc pc = .ok (.invokespecial index, 3)) (hcells : ce + rm.cells ≤ R.cells) (hslots : sl + rm.slots ≤ R.slots) (hnx : pc + 3 = nx)
    (k : ∀ u, post u → zv_V x (l, R, D, cl, tys, nL, cc, own, Ts) nx lv ((ret u).toList ++ rest) (zv_put ws isC (w1 u)) (ce + rm.cells) (sl + rm.slots)) : zv_V x (l, R, D, cl, tys, nL, cc, own, Ts) pc lv st ws ce sl := by
  subst hnx
  obtain ⟨p, e, s, m, args, below, meth, c, A, Q⟩ := x
  obtain ⟨hx, hb, hml, hown, hts, hK, hA, hE, hct⟩ := C
  intro H locs ls hP hD hS hl
  subst hst
  refine zv_back (cc := cc) (own := own) (Ts := Ts) (nL := nL) hK hP hD hS hl hA (va_runIN (As := As) (rest := rest) ⟨hx, hb, hml, hown, hts⟩ (hM H.size) (cw s args hts (hE _ hlk)) ⟨zv_Pre_blind, fun U hU hW => ⟨rfl, by rw [hU], by rw [hU]; exact hP.sub isC (zv_sub isC hC), va_K.moved hW.alike hK, (hD.sub isC hnd hC).weaken (fun _ _ _ _ => trivial), zv_E.moved hW hE⟩⟩ rfl hn hl.1 rfl (lv_room hrest) hdg ⟨hcells, hslots⟩) isC hC hnd hle k
end ZC
