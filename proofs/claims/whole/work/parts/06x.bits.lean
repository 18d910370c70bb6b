/-! BITS: sets as numbers -/
def ndf (a b : Nat) : Nat := a ^^^ (a &&& b)
theorem ndf_tb (a b i : Nat) : (ndf a b).testBit i = (a.testBit i && !b.testBit i) := by
  unfold ndf
  rw [Nat.testBit_xor, Nat.testBit_and]
  cases a.testBit i <;> cases b.testBit i <;> rfl
theorem nb_ext {x y : Int32} (h : ∀ i, i < 32 → x.toBitVec.getLsbD i = y.toBitVec.getLsbD i) : x = y := Int32.toBitVec_inj.mp (BitVec.eq_of_getLsbD_eq (fun i hi => h i hi))
theorem nb_nI (a : Nat) {i : Nat} (hi : i < 32) : (nI a).toBitVec.getLsbD i = a.testBit i := by
  show (BitVec.ofNat 32 a).getLsbD i = _
  rw [BitVec.getLsbD_ofNat, decide_eq_true hi, Bool.true_and]
theorem nb_and (a b : Nat) : nI a &&& nI b = nI (a &&& b) := by
  apply nb_ext
  intro i hi
  rw [Int32.toBitVec_and, BitVec.getLsbD_and, nb_nI _ hi, nb_nI _ hi, nb_nI _ hi, Nat.testBit_and]
theorem nb_or (a b : Nat) : nI a ||| nI b = nI (a ||| b) := by
  apply nb_ext
  intro i hi
  rw [Int32.toBitVec_or, BitVec.getLsbD_or, nb_nI _ hi, nb_nI _ hi, nb_nI _ hi, Nat.testBit_or]
theorem nb_xor (a b : Nat) : nI a ^^^ nI b = nI (a ^^^ b) := by
  apply nb_ext
  intro i hi
  rw [Int32.toBitVec_xor, BitVec.getLsbD_xor, nb_nI _ hi, nb_nI _ hi, nb_nI _ hi, Nat.testBit_xor]
theorem nb_m1 : ∀ i, i < 32 → (-1 : Int32).toBitVec.getLsbD i = true := by decide +kernel
theorem nb_not (a b : Nat) : nI a &&& (nI b ^^^ (-1)) = nI (ndf a b) := by
  apply nb_ext
  intro i hi
  rw [Int32.toBitVec_and, BitVec.getLsbD_and, Int32.toBitVec_xor, BitVec.getLsbD_xor, nb_m1 i hi, nb_nI _ hi, nb_nI _ hi, nb_nI _ hi, ndf_tb]
  cases a.testBit i <;> cases b.testBit i <;> rfl
theorem nb_1s : ∀ v, v < 32 → (1 : Int32) <<< (nI v &&& 31) = nI (2 ^ v) := by decide +kernel
theorem nb_all : ∀ v, v < 32 → (1 : Int32) <<< (nI v &&& 31) - 1 = nI (2 ^ v - 1) := by decide +kernel
theorem nb_inj {a b : Nat} (ha : a < 2 ^ 32) (hb : b < 2 ^ 32) : nI a = nI b ↔ a = b := by
  refine ⟨fun h => ?_, fun h => by rw [h]⟩
  have h1 := congrArg (fun z : Int32 => z.toBitVec.toNat) h
  simp only [pk_tn ha, pk_tn hb] at h1
  exact h1
theorem nb_0 {a : Nat} (ha : a < 2 ^ 32) : nI a = 0 ↔ a = 0 := by
  rw [← nI_0]
  exact nb_inj ha (by decide)
theorem nb_pow0 (s v : Nat) : s &&& 2 ^ v = 0 ↔ s.testBit v = false := by
  refine ⟨fun h => ?_, fun h => ?_⟩
  · have h1 : (s &&& 2 ^ v).testBit v = false := by rw [h]; exact Nat.zero_testBit v
    rw [Nat.testBit_and, Nat.testBit_two_pow_self, Bool.and_true] at h1
    exact h1
  · apply Nat.eq_of_testBit_eq
    intro i
    rw [Nat.testBit_and, Nat.zero_testBit]
    by_cases hi : v = i
    · subst hi
      rw [h, Bool.false_and]
    · rw [Nat.testBit_two_pow_of_ne hi, Bool.and_false]
theorem nb_t0 {s v : Nat} (hs : s < 2 ^ 32) (hv : v < 32) : nI s &&& ((1 : Int32) <<< (nI v &&& 31)) = 0 ↔ s.testBit v = false := by
  rw [nb_1s v hv, nb_and, nb_0 (Nat.lt_of_le_of_lt Nat.and_le_left hs), nb_pow0]
theorem nb_t1 {s v : Nat} (hs : s < 2 ^ 32) (hv : v < 32) : ¬ (nI s &&& ((1 : Int32) <<< (nI v &&& 31)) = 0) ↔ s.testBit v = true := by
  rw [nb_t0 hs hv]
  cases s.testBit v <;> simp
/-- the bits of s from v on -/
def nhi (s v : Nat) : Nat := (s >>> v) <<< v
theorem nhi_tb (s v i : Nat) : (nhi s v).testBit i = (decide (v ≤ i) && s.testBit i) := by
  unfold nhi
  rw [Nat.testBit_shiftLeft, Nat.testBit_shiftRight]
  by_cases h : v ≤ i
  · simp only [h, decide_true, Bool.true_and]
    congr 1
    omega
  · simp [h]
theorem nb_neg : ∀ v, v < 32 → ∀ i, i < 32 → (-((1 : Int32) <<< (nI v &&& 31))).toBitVec.getLsbD i = decide (v ≤ i) := by decide +kernel
theorem nb_hi (s v : Nat) (hv : v < 32) : nI s &&& (-((1 : Int32) <<< (nI v &&& 31))) = nI (nhi s v) := by
  apply nb_ext
  intro i hi
  rw [Int32.toBitVec_and, BitVec.getLsbD_and, nb_neg v hv i hi, nb_nI _ hi, nb_nI _ hi, nhi_tb]
  cases s.testBit i <;> cases decide (v ≤ i) <;> rfl
/-- how many of the first n bits -/
def npc : Nat → Nat → Nat
  | 0, _ => 0
  | k + 1, s => npc k s + (s.testBit k).toNat
theorem npc_le : ∀ (n s : Nat), npc n s ≤ n
  | 0, s => Nat.le_refl _
  | k + 1, s => by
    have h := npc_le k s
    unfold npc
    cases s.testBit k <;> simp <;> omega
theorem nb_lt_or {a b n : Nat} (ha : a < 2 ^ n) (hb : b < 2 ^ n) : a ||| b < 2 ^ n := Nat.or_lt_two_pow ha hb
theorem nb_lt_pow {v n : Nat} (h : v < n) : 2 ^ v < 2 ^ n := Nat.pow_lt_pow_right (by decide) h
theorem ndf_le (a b : Nat) : ndf a b ≤ a := by
  have h : ndf a b = a &&& ndf a b := by
    apply Nat.eq_of_testBit_eq
    intro i
    rw [Nat.testBit_and, ndf_tb]
    cases a.testBit i <;> simp
  rw [h]
  exact Nat.and_le_left
theorem nb_tb_lt {s n i : Nat} (hs : s < 2 ^ n) (hi : n ≤ i) : s.testBit i = false := Nat.testBit_lt_two_pow (Nat.lt_of_lt_of_le hs (Nat.pow_le_pow_right (by decide) hi))
