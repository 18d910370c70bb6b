/-! THE LAW: reading the script, its end -/
def zv_Sc (x : zv_X) (b L : Nat) (xs : Nat → Int32) : Prop := match x with
  | (_, _, s, _, _, _, _, _, A, _) => va_X b L xs s s.heap ∧ b < s.heap.size ∧ ¬ A b
section LR
variable {x : zv_X} {l : Launch} {R : Room} {D : va_G} {cl : List vw_C} {tys : List (ClassId × FieldType)} {nL : Nat} {cc : ByteArray} {own : String} {Ts : List Jvm.Cond}
variable {pc nx : Nat} {lv : zv_L} {st rest : List Value} {ws : va_W} {ce sl b L : Nat} {xs : Nat → Int32}
theorem zv_sld (C : zv_C x (l, R, D, cl, tys, nL, cc, own, Ts)) (hX : zv_Sc x b L xs) {i : Int32} (hst : st = .int i :: .ref b :: rest) (hin : vp_in i L) (hdg : decode cc pc = .ok (.iaload, 1)) (hnx : pc + 1 = nx)
    (k : zv_V x (l, R, D, cl, tys, nL, cc, own, Ts) nx lv (.int (xs i.toNatClampNeg) :: rest) ws ce sl) : zv_V x (l, R, D, cl, tys, nL, cc, own, Ts) pc lv st ws ce sl := by
  subst hnx
  subst hst
  obtain ⟨p, e, s, m, args, below, meth, c, A, Q⟩ := x
  obtain ⟨hx, hb, hml, hown, hts, hK, hA, hE, hct⟩ := C
  intro H locs ls hP hD hS hl
  exact va_sld hx hb hX.1 hX.2.1 hX.2.2 hS hin hdg (k H locs ls hP hD hS hl)
theorem zv_slen (C : zv_C x (l, R, D, cl, tys, nL, cc, own, Ts)) (hX : zv_Sc x b L xs) (hst : st = .ref b :: rest) (hdg : decode cc pc = .ok (.arraylength, 1)) (hnx : pc + 1 = nx)
    (k : zv_V x (l, R, D, cl, tys, nL, cc, own, Ts) nx lv (.int (nI L) :: rest) ws ce sl) : zv_V x (l, R, D, cl, tys, nL, cc, own, Ts) pc lv st ws ce sl := by
  subst hnx
  subst hst
  obtain ⟨p, e, s, m, args, below, meth, c, A, Q⟩ := x
  obtain ⟨hx, hb, hml, hown, hts, hK, hA, hE, hct⟩ := C
  intro H locs ls hP hD hS hl
  exact va_slen hx hb hX.1 hX.2.1 hX.2.2 hS hdg (k H locs ls hP hD hS hl)
end LR
