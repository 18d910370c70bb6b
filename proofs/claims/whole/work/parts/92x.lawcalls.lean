/-! THE LAW: a case each -/
abbrev gL (K : zK) : zv_G := gz K room_1 4 code RL
abbrev laV (b a0 b0 t : Nat) : zv_L := [(0, .ref b), (1, .ref a0), (2, .ref b0), (3, .int (nI (4 * t)))]
theorem rmS {t : Nat} {Lf : Nat → Bool} {σ : dS} (G : GdS t Lf σ) : lce σ ≤ 600000 ∧ lsl σ ≤ 7302250 := by
  obtain ⟨A, O, L, q, W, P, R, C, M⟩ := σ
  exact rmA0 A O L q W P R C M Lf G
theorem la_in {t L k : Nat} (h4 : 4 * t + 4 ≤ L) (hL : L ≤ 2048) (hk : k < 4) : vp_in (nI (4 * t) + nI k) L := by
  rw [nI_add]
  exact vp_in_nI (by omega) (by omega)
theorem lg_cmp_self (x : Int64) : lg_cmp x x = 0 := by
  unfold lg_cmp
  rw [if_neg (show ¬ x > x from Int64.lt_irrefl), if_pos rfl]
theorem zv_put_pre : ∀ (w1 a pre b : va_W), a.length = w1.length → zv_put (pre ++ (a ++ b)) (List.range' pre.length w1.length) w1 = pre ++ (w1 ++ b)
  | [], [], pre, b, _ => by
    show (pre ++ ([] ++ b)) ++ [] = _
    rw [List.append_nil]
  | [], c :: a, pre, b, h => absurd h (by simp)
  | q :: w1, [], pre, b, h => absurd h (by simp)
  | q :: w1, c :: a, pre, b, h => by
    have ih := zv_put_pre w1 a (pre ++ [q]) b (by simpa using h)
    have e1 : (pre ++ (c :: a ++ b)).set pre.length q = (pre ++ [q]) ++ (a ++ b) := by simp
    have e2 : List.range' pre.length (q :: w1).length = pre.length :: List.range' (pre ++ [q]).length w1.length := by
      rw [List.length_cons, List.range'_succ, List.length_append]
      rfl
    rw [e2]
    show zv_put ((pre ++ (c :: a ++ b)).set pre.length q) _ w1 = _
    rw [e1, ih]
    simp
theorem la_put (K : zK) (σ σ' : dS) (B : Nat → Nat) (kk : Nat) (Lf : Nat → Bool) (μ : dQ) : zv_put (wS K σ ++ wT K B kk Lf μ) [0, 1, 2, 3, 4, 5, 6, 7, 8, 9, 10, 11, 12, 13, 14, 15, 16, 17, 18, 19] (wS K σ') = wS K σ' ++ wT K B kk Lf μ := by
  have h := zv_put_pre (wS K σ') (wS K σ) [] (wT K B kk Lf μ) rfl
  rw [show List.range' ([] : va_W).length (wS K σ').length = [0, 1, 2, 3, 4, 5, 6, 7, 8, 9, 10, 11, 12, 13, 14, 15, 16, 17, 18, 19] from rfl] at h
  rw [List.nil_append, List.nil_append] at h
  exact h
section LW
variable {x : zv_X} {K : zK} {b L : Nat} {xs : Nat → Int32}
theorem la_call1 (C : zv_C x (gL K)) {y : MethodName} {c : ByteArray} {m n index pc nx : Nat} {rt : Option FieldType} {as : List Value} {σ : dS} {ans : Value} {G : dS → Prop} {B : Nat → Nat} {kk : Nat} {Lf : Nat → Bool} {μ : dQ} {lv : zv_L} {st : List Value} {T : u_T} {N : Nat} (hG : zG K y c m rt (.ref (σ.1 0) :: as) σ ans G) (hin : Jvm.Cond.code y c m rt ∈ zt) (hkw : zk_V RL index y n = true) (hm : m ≤ 100) (hcl : vwCl[8]? = some (y.cls, T, N)) (hst : st = as.reverse ++ .ref (σ.1 0) :: []) (hn : as.length = n) (hdg : decode code pc = .ok (.invokevirtual index, 3)) (hnx : pc + 3 = nx)
    (k : ∀ σ', G σ' → σ'.1 0 = σ.1 0 → zv_V x (gL K) nx lv [ans] (wS K σ' ++ wT K B kk Lf μ) (lce σ') (lsl σ')) : zv_V x (gL K) pc lv st (wS K σ ++ wT K B kk Lf μ) (lce σ) (lsl σ) := by
  obtain ⟨S, rm, post, ret, σ', hM, hf, hb, hu⟩ := hG
  refine zv_callV C hM (zw_V hin hkw ⟨Nat.le_trans (Nat.succ_le_succ hf.1) (by decide), ?_⟩) [0, 1, 2, 3, 4, 5, 6, 7, 8, 9, 10, 11, 12, 13, 14, 15, 16, 17, 18, 19] 0 rfl hcl rfl rfl (fun _ => Nat.le_refl _) hst hn (Nat.zero_le _) hdg hb.1 hb.2 hnx (fun u hp => ?_)
  · have := hf.2
    show _ ≤ 84000
    omega
  · obtain ⟨hret, h0, hg, hc1, hc2⟩ := hu u hp
    rw [hret, la_put]
    exact zv_wide C hc1 hc2 (k _ hg h0)
theorem la_call2 (C : zv_C x (gL K)) {y : MethodName} {c : ByteArray} {m n index pc nx : Nat} {rt : Option FieldType} {as : List Value} {σ : dS} {ans r0 : Value} {B : Nat → Nat} {kk k' : Nat} {Lf Lf' : Nat → Bool} {μ : dQ} {lv : zv_L} {st : List Value} {T : u_T} {N : Nat} (hH : zH K y c m rt (.ref (B 0) :: as) B kk Lf μ ans k' Lf') (hin : Jvm.Cond.code y c m rt ∈ zt) (hkw : zk_V RL index y n = true) (hm : m ≤ 100) (hcl : vwCl[9]? = some (y.cls, T, N)) (hst : st = as.reverse ++ .ref (B 0) :: [r0]) (hr0 : ([r0].map fun v => v.category).sum ≤ 8) (hn : as.length = n) (hdg : decode code pc = .ok (.invokevirtual index, 3)) (hnx : pc + 3 = nx) (hb : lce σ ≤ 600000 ∧ lsl σ ≤ 7302250)
    (k : ∀ μ', zv_V x (gL K) nx lv [ans, r0] (wS K σ ++ wT K B k' Lf' μ') (lce σ) (lsl σ)) : zv_V x (gL K) pc lv st (wS K σ ++ wT K B kk Lf μ) (lce σ) (lsl σ) := by
  obtain ⟨S, rm, wc, is, post, ret, w1, hM, ⟨z1, z2, z3, z4⟩, hnd, hle, hC, hu⟩ := hH
  refine zv_callV C hM (zw_V hin hkw ⟨Nat.le_trans (Nat.succ_le_succ z3) (by decide), ?_⟩) is 20 rfl hcl (hC σ) hnd hle hst hn hr0 hdg (by rw [z1]; exact hb.1) (by rw [z2]; exact hb.2) hnx (fun u hp => ?_)
  · show _ ≤ 84000
    omega
  · obtain ⟨hret, μ', hput⟩ := hu u hp
    rw [hret, hput σ, z1, z2]
    exact k μ'
/-- what a case goes on with: the joined road at 702 -/
def laK (x : zv_X) (K : zK) (b : Nat) (σ : dS) (B : Nat → Nat) (t : Nat) : Prop := ∀ (σ' : dS) (k' : Nat) (Lf' : Nat → Bool) (μ' : dQ), GdS (t + 1) Lf' σ' → σ'.2.1.2.2.1 = k' → σ'.1 0 = σ.1 0 → zv_V x (gL K) 702 (laV b (σ.1 0) (B 0) t) [] (wS K σ' ++ wT K B k' Lf' μ') (lce σ') (lsl σ')
end LW
