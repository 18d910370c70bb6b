/-! THE JDK's bitCount -/
/-- the JDK's bitCount, as its instructions have it -/
def jbc (x : Int32) : Int32 :=
  let a := x - ((x.toUInt32 >>> ((1 : Int32).toUInt32 &&& Int32.toUInt32 31)).toInt32 &&& 1431655765)
  let b := (a &&& 858993459) + ((a.toUInt32 >>> ((2 : Int32).toUInt32 &&& Int32.toUInt32 31)).toInt32 &&& 858993459)
  let c := (b + (b.toUInt32 >>> ((4 : Int32).toUInt32 &&& Int32.toUInt32 31)).toInt32) &&& 252645135
  let d := c + (c.toUInt32 >>> ((8 : Int32).toUInt32 &&& Int32.toUInt32 31)).toInt32
  let e := d + (d.toUInt32 >>> ((16 : Int32).toUInt32 &&& Int32.toUInt32 31)).toInt32
  e &&& 63
set_option maxRecDepth 100000 in
theorem jbc_all : ∀ a, a < 128 → ∀ b, b < 128 → jbc (nI (128 * a + b)) = nI (npc 14 (128 * a + b)) := by decide +kernel
theorem jbc_ok {s : Nat} (h : s < 2 ^ 14) : jbc (nI s) = nI (npc 14 s) := by
  have e : 128 * (s / 128) + s % 128 = s := Nat.div_add_mod s 128
  have h1 := jbc_all (s / 128) (by omega) (s % 128) (Nat.mod_lt _ (by decide))
  rw [e] at h1
  exact h1
