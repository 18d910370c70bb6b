/-! MU ROW -/
set_option maxHeartbeats 4000000 in
set_option maxRecDepth 100000 in
theorem c_isPart (K : zK) {p s : Nat} (hp : p < 2 ^ 32) : zD K yX8_isPart cX8_isPart 2 (some .boolean) (zq 0 0 0 0) [.int (nI p), .int (nI s)] [] (some (.int (bI (decide (ndf p s = 0))))) [] := by
  refine zo (by decide) (Nat.le_of_ble_eq_true rfl) fun x C R _ => ?_
  refine zv_go C okX8_isPart [] 20 ?_
  have hl : ndf p s < 2 ^ 32 := Nat.lt_of_le_of_lt (ndf_le _ _) hp
  refine ⟨fun h => ?_, fun h => ?_⟩
  · rw [nb_not, nb_0 hl] at h
    exact zr R () [] (some (.int 0)) _ (by rw [decide_eq_false h] <;> rfl) rfl trivial rfl rfl (Nat.le_refl _) (Nat.le_refl _) ⟨rfl, dzX8_isPart_13⟩
  · rw [nb_not, nb_0 hl] at h
    exact zr R () [] (some (.int 1)) _ (by rw [decide_eq_true h] <;> rfl) rfl trivial rfl rfl (Nat.le_refl _) (Nat.le_refl _) ⟨rfl, dzX8_isPart_13⟩
abbrev wU (K : zK) (m s t : Nat) (sf mf : Nat → Int32) (cap : Nat) (len : Int32) : va_W := [(m, .inr (3, [.ref s, .ref t, .int len])), (s, .inl (cI K, cap, .inl sf)), (t, .inl (cI K, cap, .inl mf))]
set_option maxHeartbeats 4000000 in
set_option maxRecDepth 100000 in
theorem c_clear (K : zK) (m s t : Nat) (sf mf : Nat → Int32) (cap : Nat) (len : Int32) : zD K yX3_clear cX3_clear 1 none (zq 0 0 0 0) [.ref m] (wU K m s t sf mf cap len) none (wU K m s t sf mf cap (nI 0)) := by
  refine zo (by decide) (Nat.le_of_ble_eq_true rfl) fun x C R _ => ?_
  refine zv_go C okX3_clear [] 20 ?_
  refine ⟨rfl, ?_⟩
  exact zr R () [0, 1, 2] none _ rfl rfl trivial rfl rfl (Nat.le_refl _) (Nat.le_refl _) dzX3_clear_5
abbrev zqU (f cap L l : Nat) : Room := zq f (2 * (capN cap L - cap)) (4 * (capN cap L - cap)) l
set_option maxHeartbeats 4000000 in
set_option maxRecDepth 100000 in
theorem c_muRoom (K : zK) (m s t : Nat) (sf mf : Nat → Int32) (cap L : Nat) (h0 : 0 < cap) (hL : L ≤ cap) (hL2 : L ≤ 16384) (hcap : cap ≤ 65536) :
    zM (S := Nat × Nat × (Nat → Int32) × (Nat → Int32)) K yX3_makeRoom cX3_makeRoom 1 none (zqU 2 cap L 82) [.ref m] (wU K m s t sf mf cap (nI L)) (fun u => ∀ j, j < L → u.2.2.1 j = sf j) (fun _ => none) (fun u => wU K m u.1 u.2.1 u.2.2.1 u.2.2.2 (capN cap L) (nI L)) := by
  refine zo (by decide) (Nat.le_of_ble_eq_true rfl) fun x C R _ => ?_
  refine zv_go C okX3_makeRoom [] 20 ?_
  refine ⟨rfl, rfl, ⟨rfl, rfl⟩, fun h => ?_, fun h => ⟨rfl, rfl, ?_⟩⟩
  · rw [nb_inj (by omega) (by omega)] at h
    have e : capN cap L = cap := if_neg h
    exact zr R (s, t, sf, mf) [0, 1, 2] none (wU K m s t sf mf cap (nI L)) rfl (by rw [e]) (fun _ _ => rfl) rfl rfl (Nat.zero_le _) (Nat.zero_le _) dzX3_makeRoom_46
  · have h : nI L = nI cap := h
    rw [nb_inj (by omega) (by omega)] at h
    subst h
    have e : capN L L = 2 * L := if_pos rfl
    refine zv_to C rfl (st' := [.int (nI (2 * L)), .ref s, .ref m]) (by rw [← pk_mul] <;> rfl) rfl ?_
    refine zv_callS C (c_copyOf K s L (2 * L) sf (by omega) (by omega)) (zw_S inJ7_copyOf_59c91 kX3_33 ⟨by show 1 + 1 ≤ 2; omega, by show 8 + (3 + 11) + 60 ≤ 82; omega⟩) [1] rfl rfl (fun _ => by show 1 ≤ 2; omega) (rest := [.ref m]) rfl rfl (Nat.le_of_ble_eq_true rfl) dzX3_makeRoom_23 (by show 0 + 1 ≤ 2 * (capN L L - L); rw [e]; omega) (by show 0 + 2 * L ≤ 4 * (capN L L - L); rw [e]; omega) rfl (fun u _ => ?_)
    refine zv_cells C [0, 3, 2] rfl (ws' := [(m, .inr (3, [.ref s, .ref t, .int (nI L)])), (u, .inl (cI K, 2 * L, .inl (fun j => if j < L then sf j else 0))), (t, .inl (cI K, L, .inl mf))]) rfl ?_
    refine zv_go C okX3_makeRoom [] 20 ?_
    refine ⟨rfl, rfl, rfl, ?_⟩
    refine zv_to C rfl (st' := [.int (nI (2 * L)), .ref t, .ref m]) (by rw [← pk_mul] <;> rfl) (ws' := [(m, .inr (3, [.ref u, .ref t, .int (nI L)])), (u, .inl (cI K, 2 * L, .inl (fun j => if j < L then sf j else 0))), (t, .inl (cI K, L, .inl mf))]) rfl ?_
    refine zv_callS C (c_copyOf K t L (2 * L) mf (by omega) (by omega)) (zw_S inJ7_copyOf_59c91 kX3_33 ⟨by show 1 + 1 ≤ 2; omega, by show 8 + (3 + 11) + 60 ≤ 82; omega⟩) [2] rfl rfl (fun _ => by show 1 ≤ 2; omega) (rest := [.ref m]) rfl rfl (Nat.le_of_ble_eq_true rfl) dzX3_makeRoom_40 (by show 0 + 1 + 1 ≤ 2 * (capN L L - L); rw [e]; omega) (by show 0 + 2 * L + 2 * L ≤ 4 * (capN L L - L); rw [e]; omega) rfl (fun w _ => ?_)
    refine zv_cells C [0, 1, 3] rfl (ws' := [(m, .inr (3, [.ref u, .ref t, .int (nI L)])), (u, .inl (cI K, 2 * L, .inl (fun j => if j < L then sf j else 0))), (w, .inl (cI K, 2 * L, .inl (fun j => if j < L then mf j else 0)))]) rfl ?_
    refine zv_go C okX3_makeRoom [] 20 ?_
    refine ⟨rfl, ?_⟩
    exact zr R (u, w, (fun j => if j < L then sf j else 0), (fun j => if j < L then mf j else 0)) [0, 1, 2] none (wU K m u w (fun j => if j < L then sf j else 0) (fun j => if j < L then mf j else 0) (2 * L) (nI L)) rfl (by rw [e]) (fun j hj => by show (if j < L then sf j else 0) = sf j; exact if_pos hj) rfl rfl (by show 0 + 1 + 1 ≤ 2 * (capN L L - L); rw [e]; omega) (by show 0 + 2 * L + 2 * L ≤ 4 * (capN L L - L); rw [e]; omega) dzX3_makeRoom_46
/-- where a set goes among the first k -/
def muP (S : Nat → Nat) (v : Nat) : Nat → Nat
  | 0 => 0
  | k + 1 => if v < S k then muP S v k else k + 1
theorem muP_le (S : Nat → Nat) (v : Nat) : ∀ k, muP S v k ≤ k
  | 0 => Nat.le_refl _
  | k + 1 => by
    have h := muP_le S v k
    unfold muP
    split <;> omega
def muI (S : Nat → Nat) (v L : Nat) : Nat → Nat := fun j => if j < muP S v L then S j else if j = muP S v L then v else S (j - 1)
set_option maxHeartbeats 4000000 in
set_option maxRecDepth 100000 in
theorem c_muAdd (K : zK) (m s t : Nat) (sf mf : Nat → Int32) (cap L : Nat) (S : Nat → Nat) (v : Nat) (h0 : 0 < cap) (hL : L ≤ cap) (hL2 : L ≤ 16384) (hcap : cap ≤ 65536) (hS : ∀ j, j < L → sf j = nI (S j) ∧ S j < 2 ^ 14) (hv : v < 2 ^ 14) :
    zM (S := Nat × Nat × (Nat → Int32) × (Nat → Int32)) K yX3_add cX3_add 3 none (zqU 3 cap L 102) [.ref m, .int (nI v)] (wU K m s t sf mf cap (nI L)) (fun u => ∀ j, j < L + 1 → u.2.2.1 j = nI (muI S v L j)) (fun _ => none) (fun u => wU K m u.1 u.2.1 u.2.2.1 u.2.2.2 (capN cap L) (nI (L + 1))) := by
  have hcc : L < capN cap L ∧ capN cap L ≤ 131072 := by unfold capN; split <;> omega
  have hpl := muP_le S v L
  refine zo (by decide) (Nat.le_of_ble_eq_true rfl) fun x C R _ => ?_
  refine zv_go C okX3_add [] 1 ?_
  refine zv_callV C (c_muRoom K m s t sf mf cap L h0 hL hL2 hcap) (zw_V inX3_makeRoom kX3_22 ⟨by show 2 + 1 ≤ 3; omega, by show 8 + (1 + 11) + 82 ≤ 102; omega⟩) [0, 1, 2] 0 rfl rfl rfl rfl (fun _ => Nat.le_refl _) rfl rfl (by decide) dzX3_add_1 (Nat.le_of_eq (Nat.zero_add _)) (Nat.le_of_eq (Nat.zero_add _)) rfl (fun u hu => ?_)
  refine zv_to C rfl rfl (ws' := wU K m u.1 u.2.1 u.2.2.1 u.2.2.2 (capN cap L) (nI L)) rfl ?_
  refine zv_wide C (ce' := 2 * (capN cap L - cap)) (sl' := 4 * (capN cap L - cap)) (Nat.le_of_eq (Nat.zero_add _)) (Nat.le_of_eq (Nat.zero_add _)) ?_
  -- the place is found
  have fin : ∀ (f : Nat → Int32), (∀ j, j < muP S v L → f j = nI (S j)) → (∀ j, muP S v L < j → j ≤ L → f j = nI (S (j - 1))) → zv_V x (gz K (zqU 3 cap L 102) 3 cX3_add yX3_add.cls) 45 [(0, .ref m), (1, .int (nI v)), (2, .int (nI (muP S v L)))] [] (wU K m u.1 u.2.1 f u.2.2.2 (capN cap L) (nI L)) (2 * (capN cap L - cap)) (4 * (capN cap L - cap)) := by
    intro f hf1 hf2
    refine zv_go C okX3_add [] 20 ?_
    refine ⟨rfl, ⟨rfl, rfl⟩, vp_in_nI (by omega) (by omega), rfl, rfl, ?_⟩
    refine zr R (u.1, u.2.1, upd f (nI (muP S v L)).toNatClampNeg (nI v), u.2.2.2) [0, 1, 2] none (wU K m u.1 u.2.1 (upd f (nI (muP S v L)).toNatClampNeg (nI v)) u.2.2.2 (capN cap L) (nI (L + 1))) rfl rfl (fun j hj => ?_) (by rw [← nI_1] <;> rfl) rfl (Nat.le_refl _) (Nat.le_refl _) dzX3_add_62
    show upd f (nI (muP S v L)).toNatClampNeg (nI v) j = _
    rw [nI_clamp (by omega)]
    unfold muI
    by_cases e1 : j = muP S v L
    · rw [e1, pk_us, if_neg (by omega), if_pos rfl]
    · rw [pk_un e1]
      by_cases e2 : j < muP S v L
      · rw [if_pos e2]; exact hf1 j e2
      · rw [if_neg e2, if_neg e1]; exact hf2 j (by omega) (by omega)
  have loop : ∀ k (f : Nat → Int32), k ≤ L → muP S v k = muP S v L → (∀ j, j < k → f j = nI (S j)) → (∀ j, k < j → j ≤ L → f j = nI (S (j - 1))) → zv_V x (gz K (zqU 3 cap L 102) 3 cX3_add yX3_add.cls) 9 [(0, .ref m), (1, .int (nI v)), (2, .int (nI k))] [] (wU K m u.1 u.2.1 f u.2.2.2 (capN cap L) (nI L)) (2 * (capN cap L - cap)) (4 * (capN cap L - cap)) := by
    intro k
    induction k with
    | zero =>
      intro f _ he hf1 hf2
      have he : 0 = muP S v L := he
      refine zv_go C okX3_add [45] 20 ?_
      refine ⟨fun _ => ?_, fun h => absurd (by decide) h⟩
      have hq := fin f (by rw [← he]; exact hf1) (by rw [← he]; exact hf2)
      rw [← he] at hq
      exact hq
    | succ k ih =>
      intro f hk he hf1 hf2
      have ek : nI (k + 1) - 1 = nI k := nI_pred k
      have ek2 : nI (k + 1) + (-1) = nI k := pk_m1 k
      have ec : (nI k).toNatClampNeg = k := nI_clamp (by omega)
      have ec1 : (nI (k + 1)).toNatClampNeg = k + 1 := nI_clamp (by omega)
      have hSk : S k < 2 ^ 14 := (hS k (by omega)).2
      refine zv_go C okX3_add [9, 45] 40 ?_
      refine ⟨fun h => absurd h (nI_nle (by omega) (by omega)), fun _ => ⟨rfl, ⟨rfl, rfl⟩, ?_, fun h => ?_, fun h => ⟨rfl, rfl, ⟨rfl, rfl⟩, ?_, ⟨rfl, rfl⟩, vp_in_nI (by omega) (by omega), ?_⟩⟩⟩
      · show vp_in (nI (k + 1) - 1) (capN cap L)
        rw [ek]; exact vp_in_nI (by omega) (by omega)
      · have h : f (nI (k + 1) - 1).toNatClampNeg ≤ nI v := h
        rw [ek, ec, hf1 k (by omega), nI_leI (by omega) (by omega)] at h
        rw [muP, if_neg (by omega)] at he
        have hq := fin f (by rw [← he]; exact hf1) (by rw [← he]; exact hf2)
        rw [← he] at hq
        exact hq
      · show vp_in (nI (k + 1) - 1) (capN cap L)
        rw [ek]; exact vp_in_nI (by omega) (by omega)
      · have h : ¬ f (nI (k + 1) - 1).toNatClampNeg ≤ nI v := h
        rw [ek, ec, hf1 k (by omega), nI_leI (by omega) (by omega)] at h
        rw [muP, if_pos (by omega)] at he
        refine zv_to C (lv' := [(0, .ref m), (1, .int (nI v)), (2, .int (nI k))]) (by rw [← ek2] <;> rfl) rfl (ws' := wU K m u.1 u.2.1 (upd f (k + 1) (nI (S k))) u.2.2.2 (capN cap L) (nI L)) ?_ (ih _ (by omega) he ?_ ?_)
        · show [_, (u.1, Sum.inl (cI K, capN cap L, Sum.inl (upd f (nI (k + 1)).toNatClampNeg (f (nI (k + 1) - 1).toNatClampNeg)))), _] = _
          rw [ek, ec, ec1, hf1 k (by omega)]
        · intro j hj
          rw [pk_un (by omega)]
          exact hf1 j (by omega)
        · intro j hj1 hj2
          by_cases e1 : j = k + 1
          · rw [e1, pk_us]; rfl
          · rw [pk_un e1]; exact hf2 j (by omega) hj2
  refine zv_go C okX3_add [9] 20 ?_
  refine ⟨rfl, ?_⟩
  exact loop L u.2.2.1 (Nat.le_refl _) rfl (fun j hj => by rw [hu j hj]; exact (hS j hj).1) (fun j h1 h2 => absurd h1 (by omega))
def muSum (S : Nat → Nat) (f : Nat → Int32) (i : Nat) : Nat → Int32
  | 0 => 0
  | k + 1 => if ndf (S k) (S i) = 0 then muSum S f i k + f k else muSum S f i k
set_option maxHeartbeats 4000000 in
set_option maxRecDepth 100000 in
theorem c_sumUnder (K : zK) (m s t : Nat) (sf mf : Nat → Int32) (cap L : Nat) (S : Nat → Nat) (i : Nat) (hi : i < L) (hL : L ≤ cap) (hcap : cap ≤ 131072) (hS : ∀ j, j < L → sf j = nI (S j) ∧ S j < 2 ^ 14) :
    zD K yX3_sumUnder cX3_sumUnder 4 (some .int) (zq 1 0 0 21) [.ref m, .int (nI i)] (wU K m s t sf mf cap (nI L)) (some (.int (muSum S mf i i))) (wU K m s t sf mf cap (nI L)) := by
  refine zo (by decide) (Nat.le_of_ble_eq_true rfl) fun x C R _ => ?_
  have loop : ∀ mm k, k + mm = i → zv_V x (gz K (zq 1 0 0 21) 4 cX3_sumUnder yX3_sumUnder.cls) 4 [(0, .ref m), (1, .int (nI i)), (2, .int (muSum S mf i k)), (3, .int (nI k))] [] (wU K m s t sf mf cap (nI L)) 0 0 := by
    intro mm
    induction mm with
    | zero =>
      intro k hk
      have e1 : k = i := by omega
      subst e1
      refine zv_go C okX3_sumUnder [] 20 ?_
      refine ⟨fun _ => ?_, fun h => absurd (nI_le (Nat.le_refl _) (by omega)) h⟩
      exact zr R () [0, 1, 2] (some (.int _)) _ rfl rfl trivial rfl rfl (Nat.le_refl _) (Nat.le_refl _) dzX3_sumUnder_43
    | succ mm ih =>
      intro k hk
      have ec : (nI k).toNatClampNeg = k := nI_clamp (by omega)
      have eci : (nI i).toNatClampNeg = i := nI_clamp (by omega)
      obtain ⟨s1, s2⟩ := hS k (by omega)
      obtain ⟨s3, s4⟩ := hS i hi
      refine zv_go C okX3_sumUnder [] 20 ?_
      refine ⟨fun h => absurd h (nI_ge (by omega) (by omega)), fun _ => ⟨rfl, ⟨rfl, rfl⟩, vp_in_nI (by omega) (by omega), rfl, ⟨rfl, rfl⟩, vp_in_nI (by omega) (by omega), ?_⟩⟩
      refine zv_to C rfl (st' := [.int (nI (S i)), .int (nI (S k))]) (by show [Value.int (sf (nI i).toNatClampNeg), Value.int (sf (nI k).toNatClampNeg)] = _; rw [ec, eci, s1, s3]) rfl ?_
      refine zv_callSN C (c_isPart K (p := S k) (s := S i) (by omega)) (zk_SN_in kX3_29) (zw_SN inX8_isPart kX3_29 ⟨by decide, by decide⟩) [] rfl rfl (fun _ => Nat.le_refl _) (rest := []) rfl rfl (Nat.le_of_ble_eq_true rfl) dzX3_sumUnder_21 (by decide) (by decide) rfl (fun _ _ => ?_)
      refine zv_to C rfl rfl (ws' := wU K m s t sf mf cap (nI L)) rfl ?_
      refine zv_go C okX3_sumUnder [4] 20 ?_
      refine ⟨fun h => ?_, fun h => ⟨rfl, ⟨rfl, rfl⟩, vp_in_nI (by omega) (by omega), ?_⟩⟩
      · rw [bI_0, decide_eq_false_iff_not] at h
        refine zv_to C (lv' := [(0, .ref m), (1, .int (nI i)), (2, .int (muSum S mf i (k + 1))), (3, .int (nI (k + 1)))]) ?_ rfl rfl (ih (k + 1) (by omega))
        rw [muSum, if_neg h, ← nI_1]
        rfl
      · rw [bI_1, decide_eq_true_eq] at h
        refine zv_to C (lv' := [(0, .ref m), (1, .int (nI i)), (2, .int (muSum S mf i (k + 1))), (3, .int (nI (k + 1)))]) ?_ rfl rfl (ih (k + 1) (by omega))
        rw [muSum, if_pos h, ← nI_1]
        show [_, _, (2, Value.int (muSum S mf i k + mf (nI k).toNatClampNeg)), _] = _
        rw [ec]
  refine zv_go C okX3_sumUnder [4] 20 ?_
  exact loop i 0 (by omega)
/-- the numbers of the first i sets -/
def muT (S : Nat → Nat) : Nat → (Nat → Int32)
  | 0 => fun _ => 0
  | i + 1 => va_up (muT S i) i (if i = 0 then 1 else - muSum S (muT S i) i i)
theorem muSum_ext {S : Nat → Nat} {f g : Nat → Int32} {i : Nat} : ∀ k, (∀ j, j < k → f j = g j) → muSum S f i k = muSum S g i k
  | 0, _ => rfl
  | k + 1, h => by
    unfold muSum
    rw [muSum_ext k (fun j hj => h j (by omega)), h k (by omega)]
def muR (S : Nat → Nat) (L : Nat) : Int32 := if L = 0 then 0 else muT S L (L - 1)
set_option maxHeartbeats 4000000 in
set_option maxRecDepth 100000 in
theorem c_ofFirst (K : zK) (m s t : Nat) (sf mf : Nat → Int32) (cap L : Nat) (S : Nat → Nat) (hL : L ≤ cap) (h0 : 0 < cap) (hcap : cap ≤ 131072) (hS : ∀ j, j < L → sf j = nI (S j) ∧ S j < 2 ^ 14) :
    zM (S := Nat → Int32) K yX3_ofFirstWithLast cX3_ofFirstWithLast 2 (some .int) (zq 2 0 0 44) [.ref m] (wU K m s t sf mf cap (nI L)) (fun _ => True) (fun _ => some (.int (muR S L))) (fun u => wU K m s t sf u cap (nI L)) := by
  refine zo (by decide) (Nat.le_of_ble_eq_true rfl) fun x C R _ => ?_
  have loop : ∀ mm k (f : Nat → Int32), k + mm = L → 1 ≤ k → (∀ j, j < k → f j = muT S k j) → zv_V x (gz K (zq 2 0 0 44) 2 cX3_ofFirstWithLast yX3_ofFirstWithLast.cls) 18 [(0, .ref m), (1, .int (nI k))] [] (wU K m s t sf f cap (nI L)) 0 0 := by
    intro mm
    induction mm with
    | zero =>
      intro k f hk h1 hf
      have e1 : k = L := by omega
      subst e1
      have ek : nI k - 1 = nI (k - 1) := by
        have e1 : (1 : Int32) = nI 1 := rfl
        rw [e1, pk_sub h1]
      refine zv_go C okX3_ofFirstWithLast [] 20 ?_
      refine ⟨rfl, fun _ => ⟨rfl, rfl, ⟨rfl, rfl⟩, ?_, ?_⟩, fun h => absurd (nI_le (Nat.le_refl _) (by omega)) h⟩
      · show vp_in (nI k - 1) cap
        rw [ek]; exact vp_in_nI (by omega) (by omega)
      · refine zr R f [0, 1, 2] (some (.int _)) _ ?_ rfl trivial rfl rfl (Nat.le_refl _) (Nat.le_refl _) dzX3_ofFirstWithLast_55
        show _ = some (Value.int (f (nI k - 1).toNatClampNeg))
        rw [ek, nI_clamp (by omega), hf (k - 1) (by omega)]
        unfold muR
        rw [if_neg (by omega)]
    | succ mm ih =>
      intro k f hk h1 hf
      have ec : (nI k).toNatClampNeg = k := nI_clamp (by omega)
      refine zv_go C okX3_ofFirstWithLast [] 20 ?_
      refine ⟨rfl, fun h => absurd h (nI_ge (by omega) (by omega)), fun _ => ⟨rfl, ?_⟩⟩
      refine zv_callV C (c_sumUnder K m s t sf f cap L S k (by omega) hL hcap hS) (zw_V inX3_sumUnder kX3_25 ⟨by decide, by decide⟩) [0, 1, 2] 0 rfl rfl rfl rfl (fun _ => Nat.le_refl _) (rest := [.int (nI k), .ref t]) rfl rfl (Nat.le_of_ble_eq_true rfl) dzX3_ofFirstWithLast_33 (by decide) (by decide) rfl (fun _ _ => ?_)
      refine zv_to C rfl rfl (ws' := wU K m s t sf f cap (nI L)) rfl ?_
      refine zv_go C okX3_ofFirstWithLast [18] 20 ?_
      refine ⟨⟨rfl, rfl⟩, vp_in_nI (by omega) (by omega), ?_⟩
      refine zv_to C (lv' := [(0, .ref m), (1, .int (nI (k + 1)))]) (by rw [← nI_1] <;> rfl) rfl (ws' := wU K m s t sf (upd f k (- muSum S f k k)) cap (nI L)) (by show [_, _, (t, Sum.inl (cI K, cap, Sum.inl (upd f (nI k).toNatClampNeg (- muSum S f k k))))] = _; rw [ec]) (ih (k + 1) _ (by omega) (by omega) ?_)
      intro j hj
      show upd f k (- muSum S f k k) j = va_up (muT S k) k (if k = 0 then 1 else - muSum S (muT S k) k k) j
      unfold va_up
      by_cases e1 : j = k
      · rw [e1, pk_us, if_pos rfl, if_neg (by omega), muSum_ext k hf]
      · rw [pk_un e1, if_neg e1]; exact hf j (by omega)
  refine zv_go C okX3_ofFirstWithLast [18] 20 ?_
  refine ⟨rfl, fun h => ⟨rfl, ⟨rfl, rfl⟩, vp_in_nI (n := 0) (by omega) (by omega), ?_⟩, fun h => ?_⟩
  · have h : ¬ nI L = 0 := h
    rw [nb_0 (by omega)] at h
    refine zv_to C (lv' := [(0, .ref m), (1, .int (nI 1))]) rfl rfl rfl (loop (L - 1) 1 _ (by omega) (Nat.le_refl _) ?_)
    intro j hj
    have e1 : j = 0 := by omega
    subst e1
    rfl
  · have h : nI L = 0 := h
    rw [nb_0 (by omega)] at h
    exact zr R mf [0, 1, 2] (some (.int 0)) _ (by unfold muR; rw [if_pos h]) rfl trivial rfl rfl (Nat.le_refl _) (Nat.le_refl _) dzX3_ofFirstWithLast_8
