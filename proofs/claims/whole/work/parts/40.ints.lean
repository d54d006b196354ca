/-! ints and longs as whole numbers -/
def iZ (z : Int) : Int32 := Int32.ofInt z
def lZ (z : Int) : Int64 := Int64.ofInt z
abbrev in32 (z : Int) : Prop := -2147483648 ≤ z ∧ z < 2147483648
abbrev in64 (z : Int) : Prop := -9223372036854775808 ≤ z ∧ z < 9223372036854775808
theorem iZ_toInt {z : Int} (h : in32 z) : (iZ z).toInt = z := Int32.toInt_ofInt_of_le h.1 h.2
theorem lZ_toInt {z : Int} (h : in64 z) : (lZ z).toInt = z := Int64.toInt_ofInt_of_le h.1 h.2
theorem iZ_of (x : Int32) : iZ x.toInt = x := Int32.ofInt_toInt x
theorem lZ_of (x : Int64) : lZ x.toInt = x := Int64.ofInt_toInt x
theorem iZ_in (x : Int32) : in32 x.toInt := ⟨Int32.le_toInt x, Int32.toInt_lt x⟩
theorem lZ_in (x : Int64) : in64 x.toInt := ⟨Int64.le_toInt x, Int64.toInt_lt x⟩
theorem iZ_ex (x : Int32) : ∃ z, in32 z ∧ x = iZ z := ⟨x.toInt, iZ_in x, (iZ_of x).symm⟩
theorem lZ_ex (x : Int64) : ∃ z, in64 z ∧ x = lZ z := ⟨x.toInt, lZ_in x, (lZ_of x).symm⟩
theorem iZ_add (a b : Int) : iZ a + iZ b = iZ (a + b) := (Int32.ofInt_add a b).symm
theorem iZ_sub (a b : Int) : iZ a - iZ b = iZ (a - b) := (Int32.ofInt_sub a b).symm
theorem iZ_mul (a b : Int) : iZ a * iZ b = iZ (a * b) := (Int32.ofInt_mul a b).symm
theorem iZ_neg (a : Int) : -iZ a = iZ (-a) := (Int32.ofInt_neg a).symm
theorem lZ_add (a b : Int) : lZ a + lZ b = lZ (a + b) := (Int64.ofInt_add a b).symm
theorem lZ_sub (a b : Int) : lZ a - lZ b = lZ (a - b) := (Int64.ofInt_sub a b).symm
theorem lZ_mul (a b : Int) : lZ a * lZ b = lZ (a * b) := (Int64.ofInt_mul a b).symm
theorem lZ_neg (a : Int) : -lZ a = lZ (-a) := (Int64.ofInt_neg a).symm
theorem iZ_eq {a b : Int} (ha : in32 a) (hb : in32 b) : iZ a = iZ b ↔ a = b := ⟨fun h => by rw [← iZ_toInt ha, h, iZ_toInt hb], fun h => by rw [h]⟩
theorem iZ_le {a b : Int} (ha : in32 a) (hb : in32 b) : iZ a ≤ iZ b ↔ a ≤ b := by rw [Int32.le_iff_toInt_le, iZ_toInt ha, iZ_toInt hb]
theorem iZ_lt {a b : Int} (ha : in32 a) (hb : in32 b) : iZ a < iZ b ↔ a < b := by rw [Int32.lt_iff_toInt_lt, iZ_toInt ha, iZ_toInt hb]
theorem lZ_eq {a b : Int} (ha : in64 a) (hb : in64 b) : lZ a = lZ b ↔ a = b := ⟨fun h => by rw [← lZ_toInt ha, h, lZ_toInt hb], fun h => by rw [h]⟩
theorem lZ_le {a b : Int} (ha : in64 a) (hb : in64 b) : lZ a ≤ lZ b ↔ a ≤ b := by rw [Int64.le_iff_toInt_le, lZ_toInt ha, lZ_toInt hb]
theorem lZ_lt {a b : Int} (ha : in64 a) (hb : in64 b) : lZ a < lZ b ↔ a < b := by rw [Int64.lt_iff_toInt_lt, lZ_toInt ha, lZ_toInt hb]
theorem iZ_div {a b : Int} (ha : in32 a) (hb : in32 b) (h : b ≠ -1) : iZ a / iZ b = iZ (a.tdiv b) := by
  apply Int32.toInt_inj.mp
  have hb1 : iZ b ≠ -1 := fun q => h ((iZ_eq hb (by decide)).mp (q.trans (show (-1 : Int32) = iZ (-1) from rfl)))
  have h1 := Int32.toInt_div_of_ne_right (iZ a) (iZ b) hb1
  rw [iZ_toInt ha, iZ_toInt hb] at h1
  rw [h1, iZ_toInt]
  rw [← h1]
  exact iZ_in _
theorem lZ_div {a b : Int} (ha : in64 a) (hb : in64 b) (h : b ≠ -1) : lZ a / lZ b = lZ (a.tdiv b) := by
  apply Int64.toInt_inj.mp
  have hb1 : lZ b ≠ -1 := fun q => h ((lZ_eq hb (by decide)).mp (q.trans (show (-1 : Int64) = lZ (-1) from rfl)))
  have h1 := Int64.toInt_div_of_ne_right (lZ a) (lZ b) hb1
  rw [lZ_toInt ha, lZ_toInt hb] at h1
  rw [h1, lZ_toInt]
  rw [← h1]
  exact lZ_in _
theorem iZ_rem {a b : Int} (ha : in32 a) (hb : in32 b) (h : b ≠ -1) : iZ a - iZ a / iZ b * iZ b = iZ (a.tmod b) := by
  rw [iZ_div ha hb h, iZ_mul, iZ_sub, Int.tmod_def, Int.mul_comm]
theorem lZ_rem {a b : Int} (ha : in64 a) (hb : in64 b) (h : b ≠ -1) : lZ a - lZ a / lZ b * lZ b = lZ (a.tmod b) := by
  rw [lZ_div ha hb h, lZ_mul, lZ_sub, Int.tmod_def, Int.mul_comm]
theorem iZ_l {a : Int} (h : in32 a) : (iZ a).toInt64 = lZ a := by
  apply Int64.toInt_inj.mp
  rw [Int32.toInt_toInt64, iZ_toInt h, lZ_toInt]
  exact ⟨by have := h.1; omega, by have := h.2; omega⟩
theorem lZ_i (a : Int) : (lZ a).toInt32 = iZ a := Int64.toInt32_ofInt
theorem in32_64 {a : Int} (h : in32 a) : in64 a := ⟨by have := h.1; omega, by have := h.2; omega⟩
theorem nI_iZ (n : Nat) : nI n = iZ (n : Int) := (Int32.ofInt_eq_ofNat (n := n)).symm
