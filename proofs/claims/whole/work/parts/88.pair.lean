/-! THE PAIR: desk and model side by side; what holds between two calls -/
abbrev dS : Type := (Nat → Nat) × dO × dL × zS × dW × dP × dR × dC × dM
abbrev wS (K : zK) (σ : dS) : va_W := wD K σ.1 σ.2.1 σ.2.2.1 σ.2.2.2.1 σ.2.2.2.2.1 σ.2.2.2.2.2.1 σ.2.2.2.2.2.2.1 σ.2.2.2.2.2.2.2.1 σ.2.2.2.2.2.2.2.2
abbrev dQ : Type := Int32 × (Nat → Bool) × (Nat → Int64) × (Nat → Int32) × (Nat → Int32) × (Nat → Int32) × (Nat → Int32) × (Nat → Int32)
abbrev wT (K : zK) (B : Nat → Nat) (n : Nat) (Lf : Nat → Bool) (μ : dQ) : va_W := wQ K B n μ.1 Lf μ.2.1 μ.2.2.1 μ.2.2.2.1 μ.2.2.2.2.1 μ.2.2.2.2.2.1 μ.2.2.2.2.2.2.1 μ.2.2.2.2.2.2.2
/-- a kept version: none yet, or an earlier one -/
def fr (x : Int32) (v : Nat) : Prop := x = -1 ∨ ∃ s, s ≤ v ∧ x = nI s
def Gv (t : Nat) (O : dO) (L : dL) (W : dW) (P : dP) (R : dR) (C : dC) : Prop := ∃ v, v ≤ t ∧ O.2.2.2 = nI v ∧ fr L.2.2.2 v ∧ fr W.2 v ∧ fr P.2 v ∧ fr R.2.2.2.2.1 v ∧ fr R.2.2.2.2.2 v ∧ fr C.2.2.2 v
def GL (O : dO) (L : dL) : Prop := L.2.2.2 = O.2.2.2 → lcV O.2.1 O.2.2.1 L.2.2.1 L.2.1
def GW (O : dO) (W : dW) : Prop := W.2 = O.2.2.2 → W.1 = nI (capt O.1 O.2.1 O.2.2.1)
def GP (O : dO) (P : dP) : Prop := P.2 = O.2.2.2 → ∀ j, j < O.2.2.1 → P.1 j = oI ((lkS O.2.1 O.2.2.1 O.2.2.1).2.2 j)
def GR (O : dO) (R : dR) : Prop := pw2 R.2.2.1 ∧ (R.2.2.2.2.1 = O.2.2.2 → rbV O.1 O.2.2.1 R.2.2.1 R.1 R.2.2.2.1) ∧ (R.2.2.2.2.2 = O.2.2.2 → R.2.2.2.2.1 = O.2.2.2 ∧ reV O.1 O.2.2.1 R.2.1)
def GC (O : dO) (C : dC) : Prop := 0 < C.2.1 ∧ C.2.1 ≤ 32768 ∧ (C.2.2.2 = O.2.2.2 → clV O.1 O.2.1 O.2.2.1 C.2.2.1 C.1 ∧ cstop O.1 O.2.1 O.2.2.1 + 1 ≤ C.2.1)
def GM (M : dM) : Prop := 0 < M.2.2.1 ∧ M.2.2.1 ≤ 32768
def Gd (t : Nat) (Lf : Nat → Bool) (O : dO) (L : dL) (W : dW) (P : dP) (R : dR) (C : dC) (M : dM) : Prop :=
  Tied O.2.2.1 O.1 O.2.1 Lf ∧ (1 ≤ O.2.2.1 ∧ O.2.2.1 ≤ 14) ∧ Gv t O L W P R C ∧ GL O L ∧ GW O W ∧ GP O P ∧ GR O R ∧ GC O C ∧ GM M
def GdS (t : Nat) (Lf : Nat → Bool) (σ : dS) : Prop := Gd t Lf σ.2.1 σ.2.2.1 σ.2.2.2.2.1 σ.2.2.2.2.2.1 σ.2.2.2.2.2.2.1 σ.2.2.2.2.2.2.2.1 σ.2.2.2.2.2.2.2.2
def lce (σ : dS) : Nat := σ.2.2.2.2.2.2.1.2.2.1 + σ.2.2.2.2.2.2.2.1.2.1 + 2 * σ.2.2.2.2.2.2.2.2.2.2.1
def lsl (σ : dS) : Nat := 300000 + 4 * σ.2.2.2.2.2.2.1.2.2.1 + 2 * σ.2.2.2.2.2.2.2.1.2.1 + 4 * σ.2.2.2.2.2.2.2.2.2.2.1
theorem nI_mi {s : Nat} (h : s < 2 ^ 31) : ¬ (-1 : Int32) = nI s := by
  intro e
  have := nI_pos' h
  rw [← e] at this
  revert this
  decide
theorem fr.ne {x : Int32} {v : Nat} (h : fr x v) (hv : v < 2 ^ 30) : ¬ x = nI v + 1 := by
  rw [nI_1]
  rcases h with h | ⟨s, hs, h⟩
  · rw [h]; exact nI_mi (by omega)
  · rw [h]; intro e
    have := (nb_inj (by omega) (by omega)).mp e
    omega
theorem fr.up {x : Int32} {v w : Nat} (h : fr x v) (hw : v ≤ w) : fr x w := h.elim Or.inl (fun ⟨s, h1, h2⟩ => Or.inr ⟨s, by omega, h2⟩)
theorem fr.self (v : Nat) : fr (nI v) v := Or.inr ⟨v, Nat.le_refl _, rfl⟩
section GD
variable {t : Nat} {Lf : Nat → Bool} {O : dO} {L : dL} {W : dW} {P : dP} {R : dR} {C : dC} {M : dM}
theorem Gv.up (h : Gv t O L W P R C) : Gv (t + 1) O L W P R C := by
  obtain ⟨v, h1, h2⟩ := h
  exact ⟨v, by omega, h2⟩
theorem Gd.up (h : Gd t Lf O L W P R C M) : Gd (t + 1) Lf O L W P R C M := ⟨h.1, h.2.1, h.2.2.1.up, h.2.2.2⟩
theorem Gd.new (h : Gd t Lf O L W P R C M) (ht : t < 2 ^ 30) {n' : Nat} {bl' ab' : Nat → Nat} {Lf' : Nat → Bool} (hT : Tied n' bl' ab' Lf') (h1 : 1 ≤ n') (h2 : n' ≤ 14) : Gd (t + 1) Lf' (bl', ab', n', O.2.2.2 + 1) L W P R C M := by
  obtain ⟨-, -, ⟨v, v1, v2, f1, f2, f3, f4, f5, f6⟩, -, -, -, gR, gC, gM⟩ := h
  refine ⟨hT, ⟨h1, h2⟩, ⟨v + 1, by omega, by show O.2.2.2 + 1 = _; rw [v2, nI_1], f1.up (by omega), f2.up (by omega), f3.up (by omega), f4.up (by omega), f5.up (by omega), f6.up (by omega)⟩, fun e => ?_, fun e => ?_, fun e => ?_, ⟨gR.1, fun e => ?_, fun e => ?_⟩, ⟨gC.1, gC.2.1, fun e => ?_⟩, gM⟩
  · exact absurd (v2 ▸ e) (f1.ne (by omega))
  · exact absurd (v2 ▸ e) (f2.ne (by omega))
  · exact absurd (v2 ▸ e) (f3.ne (by omega))
  · exact absurd (v2 ▸ e) (f4.ne (by omega))
  · exact absurd (v2 ▸ e) (f5.ne (by omega))
  · exact absurd (v2 ▸ e) (f6.ne (by omega))
theorem Gd.setL (h : Gd t Lf O L W P R C M) {a b : Nat → Int32} {len : Int32} (hl : lcV O.2.1 O.2.2.1 len b) : Gd (t + 1) Lf O (a, b, len, O.2.2.2) W P R C M := by
  obtain ⟨hT, hn, ⟨v, v1, v2, f1, f2, f3, f4, f5, f6⟩, gL, gW, gP, gR, gC, gM⟩ := h
  exact ⟨hT, hn, ⟨v, by omega, v2, v2 ▸ fr.self v, f2, f3, f4, f5, f6⟩, fun _ => hl, gW, gP, gR, gC, gM⟩
theorem Gd.setW (h : Gd t Lf O L W P R C M) {w : Int32} (hw : w = nI (capt O.1 O.2.1 O.2.2.1)) : Gd (t + 1) Lf O L (w, O.2.2.2) P R C M := by
  obtain ⟨hT, hn, ⟨v, v1, v2, f1, f2, f3, f4, f5, f6⟩, gL, gW, gP, gR, gC, gM⟩ := h
  exact ⟨hT, hn, ⟨v, by omega, v2, f1, v2 ▸ fr.self v, f3, f4, f5, f6⟩, gL, fun _ => hw, gP, gR, gC, gM⟩
theorem Gd.setP (h : Gd t Lf O L W P R C M) {p : Nat → Int32} (hp : ∀ j, j < O.2.2.1 → p j = oI ((lkS O.2.1 O.2.2.1 O.2.2.1).2.2 j)) : Gd (t + 1) Lf O L W (p, O.2.2.2) R C M := by
  obtain ⟨hT, hn, ⟨v, v1, v2, f1, f2, f3, f4, f5, f6⟩, gL, gW, gP, gR, gC, gM⟩ := h
  exact ⟨hT, hn, ⟨v, by omega, v2, f1, f2, v2 ▸ fr.self v, f4, f5, f6⟩, gL, gW, fun _ => hp, gR, gC, gM⟩
theorem Gd.cpB (h : Gd t Lf O L W P R C M) : R.2.2.1 ≤ capB R.2.2.2.2.1 O.2.2.2 O.2.2.1 R.2.2.1 ∧ capB R.2.2.2.2.1 O.2.2.2 O.2.2.1 R.2.2.1 ≤ 16384 ∧ pw2 (capB R.2.2.2.2.1 O.2.2.2 O.2.2.1 R.2.2.1) ∧ 2 ^ O.2.2.1 ≤ capB R.2.2.2.2.1 O.2.2.2 O.2.2.1 R.2.2.1 := by
  obtain ⟨hT, hn, -, -, -, -, gR, -, -⟩ := h
  obtain ⟨h1, h2, h3⟩ := capB_ok gR.1 hn.2 (fun e => (gR.2.1 e).2.2)
  refine ⟨?_, h2, h3, h1⟩
  unfold capB capM
  split
  · exact Nat.le_refl _
  · split <;> omega
theorem Gd.setB (h : Gd t Lf O L W P R C M) {E : Nat → Int64} (hE : R.2.2.2.2.1 = O.2.2.2 → E = R.2.1) : Gd (t + 1) Lf O L W P (rBeg O.1 O.2.2.1, E, capB R.2.2.2.2.1 O.2.2.2 O.2.2.1 R.2.2.1, nI (rIdl O.1 O.2.2.1), O.2.2.2, R.2.2.2.2.2) C M := by
  have hc := h.cpB
  obtain ⟨hT, hn, ⟨v, v1, v2, f1, f2, f3, f4, f5, f6⟩, gL, gW, gP, gR, gC, gM⟩ := h
  refine ⟨hT, hn, ⟨v, by omega, v2, f1, f2, f3, v2 ▸ fr.self v, f5, f6⟩, gL, gW, gP, ⟨hc.2.2.1, fun _ => ⟨rfl, rfl, hc.2.2.2⟩, fun e => ⟨rfl, ?_⟩⟩, gC, gM⟩
  obtain ⟨e1, e2⟩ := gR.2.2 e
  show reV _ _ E
  rw [hE e1]
  exact e2
theorem Gd.setE (h : Gd t Lf O L W P R C M) {E : Nat → Int64} (hE : reV O.1 O.2.2.1 E) : Gd (t + 1) Lf O L W P (rBeg O.1 O.2.2.1, E, capB R.2.2.2.2.1 O.2.2.2 O.2.2.1 R.2.2.1, nI (rIdl O.1 O.2.2.1), O.2.2.2, O.2.2.2) C M := by
  have hc := h.cpB
  obtain ⟨hT, hn, ⟨v, v1, v2, f1, f2, f3, f4, f5, f6⟩, gL, gW, gP, gR, gC, gM⟩ := h
  exact ⟨hT, hn, ⟨v, by omega, v2, f1, f2, f3, v2 ▸ fr.self v, v2 ▸ fr.self v, f6⟩, gL, gW, gP, ⟨hc.2.2.1, fun _ => ⟨rfl, rfl, hc.2.2.2⟩, fun _ => ⟨rfl, hE⟩⟩, gC, gM⟩
theorem Gd.cpC (h : Gd t Lf O L W P R C M) : C.2.1 ≤ capR C.2.2.2 O.2.2.2 O.1 O.2.1 O.2.2.1 C.2.1 ∧ capR C.2.2.2 O.2.2.2 O.1 O.2.1 O.2.2.1 C.2.1 ≤ 32768 ∧ cstop O.1 O.2.1 O.2.2.1 + 1 ≤ capR C.2.2.2 O.2.2.2 O.1 O.2.1 O.2.2.1 C.2.1 := by
  obtain ⟨hT, hn, -, -, -, -, -, gC, -⟩ := h
  exact ⟨capR_le _ _ _ _ _ _, capR_hi _ _ _ _ hn.2 gC.1 gC.2.1, capR_ge hn.2 gC.1 gC.2.1 (fun e => (gC.2.2 e).2)⟩
theorem Gd.setC (h : Gd t Lf O L W P R C M) {f : Nat → Int32} (hf : clV O.1 O.2.1 O.2.2.1 (nI (cstop O.1 O.2.1 O.2.2.1 + 1)) f) : Gd (t + 1) Lf O L W P R (f, capR C.2.2.2 O.2.2.2 O.1 O.2.1 O.2.2.1 C.2.1, nI (cstop O.1 O.2.1 O.2.2.1 + 1), O.2.2.2) M := by
  have hc := h.cpC
  obtain ⟨hT, hn, ⟨v, v1, v2, f1, f2, f3, f4, f5, f6⟩, gL, gW, gP, gR, gC, gM⟩ := h
  exact ⟨hT, hn, ⟨v, by omega, v2, f1, f2, f3, f4, f5, v2 ▸ fr.self v⟩, gL, gW, gP, gR, ⟨by show 0 < capR _ _ _ _ _ _; omega, hc.2.1, fun _ => ⟨hf, hc.2.2⟩⟩, gM⟩
theorem Gd.cpM (h : Gd t Lf O L W P R C M) {k : Nat} (hk : k ≤ 16384) : M.2.2.1 ≤ capA M.2.2.1 k ∧ capA M.2.2.1 k ≤ 32768 := by
  obtain ⟨-, -, -, -, -, -, -, -, gM⟩ := h
  exact ⟨capA_mono M.2.2.1 (Nat.zero_le k), (capA_ok gM.1 gM.2 k hk).2.2⟩
theorem Gd.setM (h : Gd t Lf O L W P R C M) {f g : Nat → Int32} {k : Nat} {z : Int32} (hk : k ≤ 16384) : Gd t Lf O L W P R C (f, g, capA M.2.2.1 k, z) := by
  have hc := h.cpM hk
  obtain ⟨hT, hn, gv, gL, gW, gP, gR, gC, gM⟩ := h
  exact ⟨hT, hn, gv, gL, gW, gP, gR, gC, ⟨by show 0 < capA _ _; have := gM.1; omega, hc.2⟩⟩
theorem Gd.room (h : Gd t Lf O L W P R C M) : R.2.2.1 ≤ 16384 ∧ C.2.1 ≤ 32768 ∧ M.2.2.1 ≤ 32768 := ⟨(pw2_le h.2.2.2.2.2.2.1.1).2, h.2.2.2.2.2.2.2.1.2.1, h.2.2.2.2.2.2.2.2.2⟩
theorem Gd.hb (h : Gd t Lf O L W P R C M) : ∀ j, O.1 j < 2 ^ 14 := fun j => Nat.lt_of_lt_of_le (h.1.1.bl_lt j) (Nat.pow_le_pow_right (by decide) h.2.1.2)
theorem Gd.ha (h : Gd t Lf O L W P R C M) : ∀ j, O.2.1 j < 2 ^ 14 := fun j => Nat.lt_of_lt_of_le (h.1.1.ab_lt j) (Nat.pow_le_pow_right (by decide) h.2.1.2)
end GD
/-- a call of the desk: its answer, what holds behind it -/
def zG (K : zK) (y : MethodName) (c : ByteArray) (m : Nat) (rt : Option FieldType) (ar : List Value) (σ : dS) (ans : Value) (G : dS → Prop) : Prop := ∃ (S : Type) (rm : Room) (post : S → Prop) (ret : S → Option Value) (σ' : S → dS), zM K y c m rt rm ar (wS K σ) post ret (fun u => wS K (σ' u)) ∧ (rm.frames ≤ 20 ∧ rm.locals ≤ 500) ∧ (lce σ + rm.cells ≤ 600000 ∧ lsl σ + rm.slots ≤ 7302250) ∧ ∀ u, post u → ret u = some ans ∧ (σ' u).1 0 = σ.1 0 ∧ G (σ' u) ∧ lce σ + rm.cells ≤ lce (σ' u) ∧ lsl σ + rm.slots ≤ lsl (σ' u)
/-- a call of the model -/
def zH (K : zK) (y : MethodName) (c : ByteArray) (m : Nat) (rt : Option FieldType) (ar : List Value) (B : Nat → Nat) (k : Nat) (Lf : Nat → Bool) (μ : dQ) (ans : Value) (k' : Nat) (Lf' : Nat → Bool) : Prop := ∃ (S : Type) (rm : Room) (wc : va_W) (is : List Nat) (post : S → Prop) (ret : S → Option Value) (w1 : S → va_W), zM K y c m rt rm ar wc post ret w1 ∧ (rm.cells = 0 ∧ rm.slots = 0 ∧ rm.frames ≤ 20 ∧ rm.locals ≤ 500) ∧ va_nd is = true ∧ (∀ u, is.length ≤ (w1 u).length) ∧ (∀ σ, is.map (fun i => (wS K σ ++ wT K B k Lf μ)[i]?) = wc.map some) ∧ ∀ u, post u → ret u = some ans ∧ ∃ μ', ∀ σ, zv_put (wS K σ ++ wT K B k Lf μ) is (w1 u) = wS K σ ++ wT K B k' Lf' μ'
/-- both -/
def zP (K : zK) (yc : MethodName) (cc : ByteArray) (nc : Nat) (ym : MethodName) (cm : ByteArray) (nm : Nat) (rt : Option FieldType) (as : List Value) (σ : dS) (B : Nat → Nat) (Lf : Nat → Bool) (μ : dQ) (t : Nat) (an : Value → Prop) : Prop := ∃ (ans : Value) (k' : Nat) (Lf' : Nat → Bool), an ans ∧ zG K yc cc nc rt (.ref (σ.1 0) :: as) σ ans (fun σ' => GdS (t + 1) Lf' σ' ∧ σ'.2.1.2.2.1 = k') ∧ zH K ym cm nm rt (.ref (B 0) :: as) B σ.2.1.2.2.1 Lf μ ans k' Lf'
theorem zH_D {K : zK} {y : MethodName} {c : ByteArray} {m : Nat} {rt : Option FieldType} {ar : List Value} {B : Nat → Nat} {k : Nat} {Lf : Nat → Bool} {μ : dQ} {ans : Value} {k' : Nat} {Lf' : Nat → Bool} {rm : Room} {wc w1 : va_W} (is : List Nat) (μ' : dQ) (hM : zD K y c m rt rm ar wc (some ans) w1) (hr : rm.cells = 0 ∧ rm.slots = 0 ∧ rm.frames ≤ 20 ∧ rm.locals ≤ 500) (hnd : va_nd is = true) (hle : is.length ≤ w1.length) (hC : ∀ σ, is.map (fun i => (wS K σ ++ wT K B k Lf μ)[i]?) = wc.map some) (hp : ∀ σ, zv_put (wS K σ ++ wT K B k Lf μ) is w1 = wS K σ ++ wT K B k' Lf' μ') : zH K y c m rt ar B k Lf μ ans k' Lf' :=
  ⟨Unit, rm, wc, is, _, _, _, hM, hr, hnd, fun _ => hle, hC, fun _ _ => ⟨rfl, μ', hp⟩⟩
theorem zG_D {K : zK} {y : MethodName} {c : ByteArray} {m : Nat} {rt : Option FieldType} {ar : List Value} {σ : dS} {ans : Value} {G : dS → Prop} {f lc : Nat} (σ' : dS) (hM : zD K y c m rt (zq f 0 0 lc) ar (wS K σ) (some ans) (wS K σ')) (hr : f ≤ 20 ∧ lc ≤ 500) (hb : lce σ ≤ 600000 ∧ lsl σ ≤ 7302250) (h0 : σ'.1 0 = σ.1 0) (hg : G σ') (h1 : lce σ = lce σ') (h2 : lsl σ = lsl σ') : zG K y c m rt ar σ ans G :=
  ⟨Unit, zq f 0 0 lc, _, _, fun _ => σ', hM, hr, hb, fun _ _ => ⟨rfl, h0, hg, Nat.le_of_eq h1, Nat.le_of_eq h2⟩⟩
theorem zG_0 {K : zK} {y : MethodName} {c : ByteArray} {m : Nat} {rt : Option FieldType} {ar : List Value} {σ : dS} {ans : Value} {G : dS → Prop} {f lc : Nat} {S : Type} {post : S → Prop} {ret : S → Option Value} (σ' : S → dS) (hM : zM K y c m rt (zq f 0 0 lc) ar (wS K σ) post ret (fun u => wS K (σ' u))) (hr : f ≤ 20 ∧ lc ≤ 500) (hb : lce σ ≤ 600000 ∧ lsl σ ≤ 7302250) (hu : ∀ u, post u → ret u = some ans ∧ (σ' u).1 0 = σ.1 0 ∧ G (σ' u) ∧ lce σ = lce (σ' u) ∧ lsl σ = lsl (σ' u)) : zG K y c m rt ar σ ans G :=
  ⟨S, zq f 0 0 lc, post, ret, σ', hM, hr, hb, fun u h => ⟨(hu u h).1, (hu u h).2.1, (hu u h).2.2.1, Nat.le_of_eq (hu u h).2.2.2.1, Nat.le_of_eq (hu u h).2.2.2.2⟩⟩
