/-! THE MODEL: close, put, free, isBelow -/
def updB (f : Nat → Bool) (k : Nat) (b : Bool) : Nat → Bool := fun j => if j = k then b else f j
theorem updB_bI (f : Nat → Bool) (k : Nat) (b : Bool) : upd (fun j => bI (f j)) k (bI b) = fun j => bI (updB f k b j) := by
  funext j
  unfold updB
  by_cases e : j = k
  · rw [e, pk_us, if_pos rfl]
  · rw [pk_un e, if_neg e]
def ckB (x y z : Nat) (σ : (Nat → Bool) × Bool) : (Nat → Bool) × Bool := if (σ.1 (16 * x + y) && (σ.1 (16 * y + z) && !σ.1 (16 * x + z))) = true then (updB σ.1 (16 * x + z) true, true) else σ
def czB (x y : Nat) (σ : (Nat → Bool) × Bool) : Nat → (Nat → Bool) × Bool
  | 0 => σ
  | z + 1 => ckB x y z (czB x y σ z)
def cyB (n x : Nat) (σ : (Nat → Bool) × Bool) : Nat → (Nat → Bool) × Bool
  | 0 => σ
  | y + 1 => czB x y (cyB n x σ y) n
def cxB (n : Nat) (σ : (Nat → Bool) × Bool) : Nat → (Nat → Bool) × Bool
  | 0 => σ
  | x + 1 => cyB n x (cxB n σ x) n
def clW (n : Nat) : Nat → (Nat → Bool) → (Nat → Bool)
  | 0, f => f
  | d + 1, f => if (cxB n (f, false) n).2 = true then clW n d (cxB n (f, false) n).1 else (cxB n (f, false) n).1
/-- how many are true among the first k -/
def cT (f : Nat → Bool) : Nat → Nat
  | 0 => 0
  | k + 1 => cT f k + (f k).toNat
theorem cT_le (f : Nat → Bool) : ∀ k, cT f k ≤ k
  | 0 => Nat.le_refl _
  | k + 1 => by
    have h := cT_le f k
    unfold cT
    cases f k <;> simp <;> omega
theorem cT_up {f : Nat → Bool} {i : Nat} (hf : f i = false) : ∀ k, cT (updB f i true) k = cT f k + (decide (i < k)).toNat
  | 0 => by simp [cT]
  | k + 1 => by
    have h := cT_up hf k
    unfold cT
    rw [h]
    unfold updB
    by_cases e : k = i
    · subst e
      rw [if_pos rfl, hf]
      simp
    · rw [if_neg e]
      by_cases e2 : i < k
      · simp [e2, Nat.lt_succ_of_lt e2]; omega
      · have e3 : ¬ i < k + 1 := by omega
        simp [e2, e3]
/-- a run of steps only adds, and tells of it -/
def gB (σ τ : (Nat → Bool) × Bool) : Prop := cT σ.1 256 ≤ cT τ.1 256 ∧ (τ.2 = true → σ.2 = true ∨ cT σ.1 256 < cT τ.1 256)
theorem gB_rf (σ : (Nat → Bool) × Bool) : gB σ σ := ⟨Nat.le_refl _, fun h => Or.inl h⟩
theorem gB_tr {a b c : (Nat → Bool) × Bool} (h1 : gB a b) (h2 : gB b c) : gB a c := by
  refine ⟨Nat.le_trans h1.1 h2.1, fun h => ?_⟩
  rcases h2.2 h with h3 | h3
  · rcases h1.2 h3 with h4 | h4
    · exact Or.inl h4
    · exact Or.inr (Nat.lt_of_lt_of_le h4 h2.1)
  · exact Or.inr (Nat.lt_of_le_of_lt h1.1 h3)
theorem gB_ck {x y z : Nat} (h : 16 * x + z < 256) (σ : (Nat → Bool) × Bool) : gB σ (ckB x y z σ) := by
  unfold ckB
  split
  · rename_i hc
    simp only [Bool.and_eq_true, Bool.not_eq_true'] at hc
    have h1 := cT_up hc.2.2 256
    rw [decide_eq_true h] at h1
    have h2 : cT σ.1 256 < cT (updB σ.1 (16 * x + z) true) 256 := by rw [h1]; simp
    exact ⟨Nat.le_of_lt h2, fun _ => Or.inr h2⟩
  · exact gB_rf σ
theorem gB_cz {x y : Nat} (hx : x < 14) (σ : (Nat → Bool) × Bool) : ∀ z, z ≤ 14 → gB σ (czB x y σ z)
  | 0, _ => gB_rf σ
  | z + 1, h => gB_tr (gB_cz hx σ z (by omega)) (gB_ck (by omega) _)
theorem gB_cy {n x : Nat} (hn : n ≤ 14) (hx : x < 14) (σ : (Nat → Bool) × Bool) : ∀ y, gB σ (cyB n x σ y)
  | 0 => gB_rf σ
  | y + 1 => gB_tr (gB_cy hn hx σ y) (gB_cz hx _ n hn)
theorem gB_cx {n : Nat} (hn : n ≤ 14) (σ : (Nat → Bool) × Bool) : ∀ x, x ≤ 14 → gB σ (cxB n σ x)
  | 0, _ => gB_rf σ
  | x + 1, h => gB_tr (gB_cx hn σ x (by omega)) (gB_cy hn (by omega) _ n)
section MC
variable (K : zK) (A : Nat → Nat) (n : Nat) (cc : Int32)
set_option maxHeartbeats 4000000 in
set_option maxRecDepth 100000 in
theorem m_close (r : Nat) (f0 : Nat → Bool) (hn : n ≤ 14) : zD K yX9_close cX9_close 6 none (zq 0 0 0 0) [.ref (A 0), .ref r] [mO A n cc, mZ K r f0] none [mO A n cc, mZ K r (clW n 257 f0)] := by
  refine zo (by decide) (Nat.le_of_ble_eq_true rfl) fun x C R _ => ?_
  have lz : ∀ (a b : Nat), a < n → b < n → ∀ (σ0 : (Nat → Bool) × Bool), (∀ τ : (Nat → Bool) × Bool, τ = czB a b σ0 n → zv_V x (gz K (zq 0 0 0 0) 6 cX9_close yX9_close.cls) 97 [(0, .ref (A 0)), (1, .ref r), (2, .int (bI τ.2)), (3, .int (nI a)), (4, .int (nI b)), (5, .int (nI n))] [] [mO A n cc, mZ K r τ.1] 0 0) → ∀ m c (τ : (Nat → Bool) × Bool), c + m = n → τ = czB a b σ0 c → zv_V x (gz K (zq 0 0 0 0) 6 cX9_close yX9_close.cls) 33 [(0, .ref (A 0)), (1, .ref r), (2, .int (bI τ.2)), (3, .int (nI a)), (4, .int (nI b)), (5, .int (nI c))] [] [mO A n cc, mZ K r τ.1] 0 0 := by
    intro a b ha hb σ0 hk m
    induction m with
    | zero =>
      intro c τ hc hτ
      have e : c = n := by omega
      subst e
      refine zv_go C okX9_close [97] 20 ?_
      refine ⟨rfl, fun _ => ?_, fun h => absurd (nI_le (Nat.le_refl _) (by omega)) h⟩
      exact hk τ hτ
    | succ m ih =>
      intro c τ hc hτ
      have i1 : ((16 : Int32) * nI a + nI b).toNatClampNeg = 16 * a + b := by rw [nb_16]; exact nI_clamp (by omega)
      have i2 : ((16 : Int32) * nI b + nI c).toNatClampNeg = 16 * b + c := by rw [nb_16]; exact nI_clamp (by omega)
      have i3 : ((16 : Int32) * nI a + nI c).toNatClampNeg = 16 * a + c := by rw [nb_16]; exact nI_clamp (by omega)
      have v1 : vp_in ((16 : Int32) * nI a + nI b) 256 := by rw [nb_16]; exact vp_in_nI (by omega) (by decide)
      have v2 : vp_in ((16 : Int32) * nI b + nI c) 256 := by rw [nb_16]; exact vp_in_nI (by omega) (by decide)
      have v3 : vp_in ((16 : Int32) * nI a + nI c) 256 := by rw [nb_16]; exact vp_in_nI (by omega) (by decide)
      have stay : (τ.1 (16 * a + b) && (τ.1 (16 * b + c) && !τ.1 (16 * a + c))) = false → τ = czB a b σ0 (c + 1) := by
        intro hno
        show τ = ckB a b c (czB a b σ0 c)
        rw [← hτ]
        unfold ckB
        rw [if_neg (by rw [hno]; decide)]
      have nxt := fun e => zv_to C (lv' := [(0, .ref (A 0)), (1, .ref r), (2, .int (bI τ.2)), (3, .int (nI a)), (4, .int (nI b)), (5, .int (nI (c + 1)))]) (lv := [(0, .ref (A 0)), (1, .ref r), (2, .int (bI τ.2)), (3, .int (nI a)), (4, .int (nI b)), (5, .int (nI c + 1))]) (by rw [← nI_1]) rfl rfl (ih (c + 1) τ (by omega) e)
      refine zv_go C okX9_close [33] 60 ?_
      refine ⟨rfl, fun h => absurd h (nI_ge (by omega) (by omega)), fun _ => ⟨⟨rfl, rfl⟩, v1, fun h1 => ?_, fun h1 => ⟨⟨rfl, rfl⟩, v2, fun h2 => ?_, fun h2 => ⟨⟨rfl, rfl⟩, v3, fun h3 => ?_, fun h3 => ⟨⟨rfl, rfl⟩, v3, ?_⟩⟩⟩⟩⟩
      · have h1 : bI (τ.1 ((16 : Int32) * nI a + nI b).toNatClampNeg) = 0 := h1
        rw [i1, bI_0] at h1
        exact nxt (stay (by rw [h1]; rfl))
      · have h2 : bI (τ.1 ((16 : Int32) * nI b + nI c).toNatClampNeg) = 0 := h2
        rw [i2, bI_0] at h2
        exact nxt (stay (by rw [h2]; simp))
      · have h3 : ¬ bI (τ.1 ((16 : Int32) * nI a + nI c).toNatClampNeg) = 0 := h3
        rw [i3, bI_1] at h3
        exact nxt (stay (by rw [h3]; simp))
      · have h1 : ¬ bI (τ.1 ((16 : Int32) * nI a + nI b).toNatClampNeg) = 0 := h1
        have h2 : ¬ bI (τ.1 ((16 : Int32) * nI b + nI c).toNatClampNeg) = 0 := h2
        have h3 : bI (τ.1 ((16 : Int32) * nI a + nI c).toNatClampNeg) = 0 := h3
        rw [i1, bI_1] at h1
        rw [i2, bI_1] at h2
        rw [i3, bI_0] at h3
        refine zv_to C (lv' := [(0, .ref (A 0)), (1, .ref r), (2, .int (bI true)), (3, .int (nI a)), (4, .int (nI b)), (5, .int (nI (c + 1)))]) (by rw [← nI_1] <;> rfl) rfl (ws' := [mO A n cc, mZ K r (updB τ.1 (16 * a + c) true)]) ?_ (ih (c + 1) (updB τ.1 (16 * a + c) true, true) (by omega) ?_)
        · show [_, (r, Sum.inl (cZ K, 256, Sum.inl (upd (fun k => bI (τ.1 k)) ((16 : Int32) * nI a + nI c).toNatClampNeg (vp_nar .boolean 1))))] = _
          rw [i3, bI_n1, updB_bI]
        · show _ = ckB a b c (czB a b σ0 c)
          rw [← hτ]
          unfold ckB
          rw [if_pos (by rw [h1, h2, h3]; rfl)]
  have ly : ∀ (a : Nat), a < n → ∀ (σ0 : (Nat → Bool) × Bool), (∀ (τ : (Nat → Bool) × Bool) (lv2 : zv_L), τ = cyB n a σ0 n → (lv2 = [] ∨ ∃ z, lv2 = [(5, .int z)]) → zv_V x (gz K (zq 0 0 0 0) 6 cX9_close yX9_close.cls) 103 ([(0, .ref (A 0)), (1, .ref r), (2, .int (bI τ.2)), (3, .int (nI a)), (4, .int (nI n))] ++ lv2) [] [mO A n cc, mZ K r τ.1] 0 0) → ∀ m b (τ : (Nat → Bool) × Bool) (lv2 : zv_L), b + m = n → τ = cyB n a σ0 b → (lv2 = [] ∨ ∃ z, lv2 = [(5, .int z)]) → zv_V x (gz K (zq 0 0 0 0) 6 cX9_close yX9_close.cls) 21 ([(0, .ref (A 0)), (1, .ref r), (2, .int (bI τ.2)), (3, .int (nI a)), (4, .int (nI b))] ++ lv2) [] [mO A n cc, mZ K r τ.1] 0 0 := by
    intro a ha σ0 hk m
    induction m with
    | zero =>
      intro b τ lv2 hb hτ hl2
      have e : b = n := by omega
      refine zv_drop C [0, 1, 2, 3, 4] (lv' := [(0, .ref (A 0)), (1, .ref r), (2, .int (bI τ.2)), (3, .int (nI a)), (4, .int (nI b))]) (by rcases hl2 with rfl | ⟨z, rfl⟩ <;> rfl) ?_
      subst e
      refine zv_go C okX9_close [103] 20 ?_
      refine ⟨rfl, fun _ => ?_, fun h => absurd (nI_le (Nat.le_refl _) (by omega)) h⟩
      exact hk τ [] hτ (Or.inl rfl)
    | succ m ih =>
      intro b τ lv2 hb hτ hl2
      refine zv_drop C [0, 1, 2, 3, 4] (lv' := [(0, .ref (A 0)), (1, .ref r), (2, .int (bI τ.2)), (3, .int (nI a)), (4, .int (nI b))]) (by rcases hl2 with rfl | ⟨z, rfl⟩ <;> rfl) ?_
      refine zv_go C okX9_close [33] 20 ?_
      refine ⟨rfl, fun h => absurd h (nI_ge (by omega) (by omega)), fun _ => ?_⟩
      refine lz a b ha (by omega) τ (fun ρ hρ => ?_) n 0 τ (by omega) rfl
      refine zv_go C okX9_close [21] 20 ?_
      exact zv_to C (lv' := [(0, .ref (A 0)), (1, .ref r), (2, .int (bI ρ.2)), (3, .int (nI a)), (4, .int (nI (b + 1))), (5, .int (nI n))]) (by rw [← nI_1] <;> rfl) rfl rfl (ih (b + 1) ρ [_] (by omega) (by rw [hρ, hτ]; rfl) (Or.inr ⟨_, rfl⟩))
  have lx : ∀ (σ0 : (Nat → Bool) × Bool), (∀ (τ : (Nat → Bool) × Bool) (lv2 : zv_L), τ = cxB n σ0 n → (lv2 = [] ∨ (∃ z, lv2 = [(4, .int z)]) ∨ ∃ z w, lv2 = [(4, .int z), (5, .int w)]) → zv_V x (gz K (zq 0 0 0 0) 6 cX9_close yX9_close.cls) 109 ([(0, .ref (A 0)), (1, .ref r), (2, .int (bI τ.2)), (3, .int (nI n))] ++ lv2) [] [mO A n cc, mZ K r τ.1] 0 0) → ∀ m a (τ : (Nat → Bool) × Bool) (lv2 : zv_L), a + m = n → τ = cxB n σ0 a → (lv2 = [] ∨ (∃ z, lv2 = [(4, .int z)]) ∨ ∃ z w, lv2 = [(4, .int z), (5, .int w)]) → zv_V x (gz K (zq 0 0 0 0) 6 cX9_close yX9_close.cls) 10 ([(0, .ref (A 0)), (1, .ref r), (2, .int (bI τ.2)), (3, .int (nI a))] ++ lv2) [] [mO A n cc, mZ K r τ.1] 0 0 := by
    intro σ0 hk m
    induction m with
    | zero =>
      intro a τ lv2 ha hτ hl2
      have e : a = n := by omega
      refine zv_drop C [0, 1, 2, 3] (lv' := [(0, .ref (A 0)), (1, .ref r), (2, .int (bI τ.2)), (3, .int (nI a))]) (by rcases hl2 with rfl | ⟨z, rfl⟩ | ⟨z, w, rfl⟩ <;> rfl) ?_
      subst e
      refine zv_go C okX9_close [109] 20 ?_
      refine ⟨rfl, fun _ => ?_, fun h => absurd (nI_le (Nat.le_refl _) (by omega)) h⟩
      exact hk τ [] hτ (Or.inl rfl)
    | succ m ih =>
      intro a τ lv2 ha hτ hl2
      refine zv_drop C [0, 1, 2, 3] (lv' := [(0, .ref (A 0)), (1, .ref r), (2, .int (bI τ.2)), (3, .int (nI a))]) (by rcases hl2 with rfl | ⟨z, rfl⟩ | ⟨z, w, rfl⟩ <;> rfl) ?_
      refine zv_go C okX9_close [21] 20 ?_
      refine ⟨rfl, fun h => absurd h (nI_ge (by omega) (by omega)), fun _ => ?_⟩
      refine ly a (by omega) τ (fun ρ lv3 hρ hl3 => ?_) n 0 τ [] (by omega) rfl (Or.inl rfl)
      refine zv_drop C [0, 1, 2, 3, 4] (lv' := [(0, .ref (A 0)), (1, .ref r), (2, .int (bI ρ.2)), (3, .int (nI a)), (4, .int (nI n))]) (by rcases hl3 with rfl | ⟨z, rfl⟩ <;> rfl) ?_
      refine zv_go C okX9_close [10] 20 ?_
      exact zv_to C (lv' := [(0, .ref (A 0)), (1, .ref r), (2, .int (bI ρ.2)), (3, .int (nI (a + 1))), (4, .int (nI n))]) (by rw [← nI_1] <;> rfl) rfl rfl (ih (a + 1) ρ [_] (by omega) (by rw [hρ, hτ]; rfl) (Or.inr (Or.inl ⟨_, rfl⟩)))
  have lw : ∀ d (f : Nat → Bool) (lv2 : zv_L), 256 - cT f 256 < d → clW n d f = clW n 257 f0 → (lv2 = [] ∨ ∃ z, lv2 = [(3, .int z)]) → zv_V x (gz K (zq 0 0 0 0) 6 cX9_close yX9_close.cls) 2 ([(0, .ref (A 0)), (1, .ref r), (2, .int (bI true))] ++ lv2) [] [mO A n cc, mZ K r f] 0 0 := by
    intro d
    induction d with
    | zero => intro f lv2 h; exact absurd h (Nat.not_lt_zero _)
    | succ d ih =>
      intro f lv2 hd he hl2
      refine zv_drop C [0, 1, 2] (lv' := [(0, .ref (A 0)), (1, .ref r), (2, .int (bI true))]) (by rcases hl2 with rfl | ⟨z, rfl⟩ <;> rfl) ?_
      refine zv_go C okX9_close [10] 20 ?_
      refine ⟨fun h => absurd h (by decide), fun _ => ?_⟩
      refine lx (f, false) (fun τ lv3 hτ hl3 => ?_) n 0 (f, false) [] (by omega) rfl (Or.inl rfl)
      have hg := gB_cx hn (f, false) n hn
      rw [← hτ] at hg
      rw [clW, ← hτ] at he
      refine zv_drop C [0, 1, 2, 3] (lv' := [(0, .ref (A 0)), (1, .ref r), (2, .int (bI τ.2)), (3, .int (nI n))]) (by rcases hl3 with rfl | ⟨z, rfl⟩ | ⟨z, w, rfl⟩ <;> rfl) ?_
      refine zv_go C okX9_close [2] 1 ?_
      cases hm : τ.2 with
      | true =>
        rw [hm, if_pos rfl] at he
        have hlt : cT f 256 < cT τ.1 256 := (hg.2 hm).elim (fun z => by cases z) id
        have hle := cT_le τ.1 256
        exact ih τ.1 [(3, .int (nI n))] (by omega) he (Or.inr ⟨_, rfl⟩)
      | false =>
        rw [hm, if_neg (by decide)] at he
        refine zv_go C okX9_close [] 3 ?_
        refine ⟨fun _ => ?_, fun h => absurd rfl h⟩
        exact zr R () [0, 1] none _ rfl (by rw [← he]) trivial rfl rfl (Nat.le_refl _) (Nat.le_refl _) dzX9_close_112
  refine zv_go C okX9_close [2] 2 ?_
  exact lw 257 f0 [] (by omega) rfl (Or.inl rfl)
end MC
