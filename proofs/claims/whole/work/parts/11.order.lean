/-! ORDER: its leaves -/
abbrev wO (K : zK) (o b a : Nat) (bl ab : Nat → Int32) (n ver : Int32) : va_W := [(o, .inr (4, [.ref b, .ref a, .int n, .int ver])), (b, .inl (cI K, 14, .inl bl)), (a, .inl (cI K, 14, .inl ab))]
set_option maxHeartbeats 4000000 in
set_option maxRecDepth 100000 in
theorem c_has (K : zK) (o b a : Nat) (bl ab : Nat → Int32) (n ver v : Int32) : zD K yX4_has cX4_has 2 (some .boolean) (zq 0 0 0 0) [.ref o, .int v] (wO K o b a bl ab n ver) (some (.int (bI (decide (0 ≤ v ∧ v < n))))) (wO K o b a bl ab n ver) := by
  refine zo (by decide) (by decide) fun x C R _ => ?_
  refine zv_go C okX4_has [] 20 ?_
  refine ⟨fun h => ?_, fun h => ⟨rfl, fun h2 => ?_, fun h2 => ?_⟩⟩
  · exact zr R () [0, 1, 2] (some (.int 0)) _ (by rw [decide_eq_false]; rfl; exact fun q => absurd q.1 (Int32.not_le.mpr h)) rfl trivial rfl rfl (Nat.le_refl _) (Nat.le_refl _) ⟨rfl, by decide +kernel⟩
  · exact zr R () [0, 1, 2] (some (.int 0)) _ (by rw [decide_eq_false]; rfl; exact fun q => absurd q.2 (Int32.not_lt.mpr h2)) rfl trivial rfl rfl (Nat.le_refl _) (Nat.le_refl _) ⟨rfl, by decide +kernel⟩
  · exact zr R () [0, 1, 2] (some (.int 1)) _ (by rw [decide_eq_true]; rfl; exact ⟨Int32.not_lt.mp h, Int32.not_le.mp h2⟩) rfl trivial rfl rfl (Nat.le_refl _) (Nat.le_refl _) ⟨rfl, by decide +kernel⟩
