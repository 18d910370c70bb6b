/-! LONGEST CHAIN: refresh, length, thingAt -/
/-- what the object keeps of the chain is true -/
def lcV (ab : Nat → Nat) (n : Nat) (len : Int32) (tf : Nat → Int32) : Prop := len = nI (plen ab n) ∧ ∀ j, j < plen ab n → tf j = nI (cth ab n j)
set_option maxHeartbeats 4000000 in
set_option maxRecDepth 100000 in
theorem c_lcRefresh (K : zK) (c o b a y t : Nat) (bl ab : Nat → Nat) (n : Nat) (ver : Int32) (lf tf : Nat → Int32) (len seen : Int32) (hn : n ≤ 14) (ha : ∀ j, ab j < 2 ^ 14) (hs : seen = ver → lcV ab n len tf) :
    zM (S := (Nat → Int32) × (Nat → Int32)) K yX1_refresh cX1_refresh 1 none (zq 2 0 0 45) [.ref c] (wL K c o b a y t bl ab n ver lf tf len seen) (fun u => lcV ab n (nI (plen ab n)) u.2) (fun _ => none) (fun u => wL K c o b a y t bl ab n ver u.1 u.2 (nI (plen ab n)) ver) := by
  refine zo (by decide) (Nat.le_of_ble_eq_true rfl) fun x C R _ => ?_
  refine zv_go C okX1_refresh [] 20 ?_
  refine ⟨rfl, rfl, rfl, fun h => ?_, fun h => ⟨rfl, rfl, rfl, ?_⟩⟩
  · have h : seen = ver := h
    subst h
    have hv := hs rfl
    exact zr R (lf, tf) [0, 1, 2, 3, 4, 5] none (wL K c o b a y t bl ab n seen lf tf len seen) rfl (by rw [hv.1]) ⟨rfl, hv.2⟩ rfl rfl (Nat.le_refl _) (Nat.le_refl _) dzX1_refresh_33
  · refine zv_callV C (c_peelLayers K c o b a y t bl ab n ver lf tf len ver hn ha) (zw_V inX1_peelLayers kX1_37 ⟨by decide, by decide⟩) [0, 1, 2, 3, 4, 5] 0 rfl rfl rfl rfl (fun _ => Nat.le_refl _) rfl rfl (by decide) dzX1_refresh_26 (by decide) (by decide) rfl (fun u hu => ?_)
    refine zv_to C rfl rfl (ws' := wL K c o b a y t bl ab n ver u tf (nI (plen ab n)) ver) rfl ?_
    refine zv_go C okX1_refresh [] 1 ?_
    refine zv_callV C (c_climb K c o b a y t bl ab n ver u tf ver hn ha hu) (zw_V inX1_climb kX1_40 ⟨by decide, by decide⟩) [0, 1, 2, 3, 4, 5] 0 rfl rfl rfl rfl (fun _ => Nat.le_refl _) rfl rfl (by decide) dzX1_refresh_30 (by decide) (by decide) rfl (fun g hg => ?_)
    exact zr R (u, g) [0, 1, 2, 3, 4, 5] none _ rfl rfl ⟨rfl, hg⟩ rfl rfl (Nat.le_refl _) (Nat.le_refl _) dzX1_refresh_33
set_option maxHeartbeats 4000000 in
set_option maxRecDepth 100000 in
theorem c_lcLength (K : zK) (c o b a y t : Nat) (bl ab : Nat → Nat) (n : Nat) (ver : Int32) (lf tf : Nat → Int32) (len seen : Int32) (hn : n ≤ 14) (ha : ∀ j, ab j < 2 ^ 14) (hs : seen = ver → lcV ab n len tf) :
    zM (S := (Nat → Int32) × (Nat → Int32)) K yX1_length cX1_length 1 (some .int) (zq 3 0 0 65) [.ref c] (wL K c o b a y t bl ab n ver lf tf len seen) (fun u => lcV ab n (nI (plen ab n)) u.2) (fun _ => some (.int (nI (plen ab n)))) (fun u => wL K c o b a y t bl ab n ver u.1 u.2 (nI (plen ab n)) ver) := by
  refine zo (by decide) (Nat.le_of_ble_eq_true rfl) fun x C R _ => ?_
  refine zv_go C okX1_length [] 1 ?_
  refine zv_callV C (c_lcRefresh K c o b a y t bl ab n ver lf tf len seen hn ha hs) (zw_V inX1_refresh kX1_26 ⟨by decide, by decide⟩) [0, 1, 2, 3, 4, 5] 0 rfl rfl rfl rfl (fun _ => Nat.le_refl _) rfl rfl (by decide) dzX1_length_1 (by decide) (by decide) rfl (fun u hu => ?_)
  refine zv_to C rfl rfl (ws' := wL K c o b a y t bl ab n ver u.1 u.2 (nI (plen ab n)) ver) rfl ?_
  refine zv_go C okX1_length [] 20 ?_
  refine ⟨rfl, ?_⟩
  exact zr R u [0, 1, 2, 3, 4, 5] (some (.int _)) _ rfl rfl hu rfl rfl (Nat.le_refl _) (Nat.le_refl _) dzX1_length_8
/-- thing i of the chain, for any number i -/
def chAt (ab : Nat → Nat) (n : Nat) (i : Int32) : Int32 := if 0 ≤ i ∧ i < nI (plen ab n) then nI (cth ab n i.toNatClampNeg) else -1
set_option maxHeartbeats 4000000 in
set_option maxRecDepth 100000 in
theorem c_thingAt (K : zK) (c o b a y t : Nat) (bl ab : Nat → Nat) (n : Nat) (ver : Int32) (lf tf : Nat → Int32) (len seen i : Int32) (hn : n ≤ 14) (ha : ∀ j, ab j < 2 ^ 14) (hs : seen = ver → lcV ab n len tf) :
    zM (S := (Nat → Int32) × (Nat → Int32)) K yX1_thingAt cX1_thingAt 2 (some .int) (zq 3 0 0 65) [.ref c, .int i] (wL K c o b a y t bl ab n ver lf tf len seen) (fun u => lcV ab n (nI (plen ab n)) u.2) (fun _ => some (.int (chAt ab n i))) (fun u => wL K c o b a y t bl ab n ver u.1 u.2 (nI (plen ab n)) ver) := by
  have hpl := plen_le ab n
  refine zo (by decide) (Nat.le_of_ble_eq_true rfl) fun x C R _ => ?_
  refine zv_go C okX1_thingAt [] 1 ?_
  refine zv_callV C (c_lcRefresh K c o b a y t bl ab n ver lf tf len seen hn ha hs) (zw_V inX1_refresh kX1_26 ⟨by decide, by decide⟩) [0, 1, 2, 3, 4, 5] 0 rfl rfl rfl rfl (fun _ => Nat.le_refl _) rfl rfl (by decide) dzX1_thingAt_1 (by decide) (by decide) rfl (fun u hu => ?_)
  refine zv_to C rfl rfl (ws' := wL K c o b a y t bl ab n ver u.1 u.2 (nI (plen ab n)) ver) rfl ?_
  refine zv_go C okX1_thingAt [] 20 ?_
  refine ⟨fun h => ?_, fun h => ⟨rfl, fun h2 => ?_, fun h2 => ⟨rfl, ⟨rfl, rfl⟩, ?_, ?_⟩⟩⟩
  · exact zr R u [0, 1, 2, 3, 4, 5] (some (.int (-1))) _ (by unfold chAt; rw [if_neg (fun q => absurd q.1 (Int32.not_le.mpr h))]) rfl hu rfl rfl (Nat.le_refl _) (Nat.le_refl _) dzX1_thingAt_26
  · exact zr R u [0, 1, 2, 3, 4, 5] (some (.int (-1))) _ (by unfold chAt; rw [if_neg (fun q => absurd q.2 (Int32.not_lt.mpr h2))]) rfl hu rfl rfl (Nat.le_refl _) (Nat.le_refl _) dzX1_thingAt_26
  · obtain ⟨j, hj, rfl, -⟩ := pk_mu h h2 (by omega)
    exact vp_in_nI (by omega) (by decide)
  · have hq : 0 ≤ i ∧ i < nI (plen ab n) := ⟨Int32.not_lt.mp h, Int32.not_le.mp h2⟩
    obtain ⟨j, hj, hij, -⟩ := pk_mu h h2 (by omega)
    refine zr R u [0, 1, 2, 3, 4, 5] (some (.int _)) _ ?_ rfl hu rfl rfl (Nat.le_refl _) (Nat.le_refl _) dzX1_thingAt_26
    have h5 : u.2 i.toNatClampNeg = nI (cth ab n i.toNatClampNeg) := hu.2 _ (by rw [hij, nI_clamp (by omega)]; exact hj)
    unfold chAt
    rw [if_pos hq, h5]
