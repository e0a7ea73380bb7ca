/-! ===== numbers: every int is xi of an integer ===== -/
def xi (a : Int) : Int32 := Int32.ofInt a
theorem xi_of (x : Int32) : x = xi x.toInt := (Int32.ofInt_toInt x).symm
theorem xi_lo (x : Int32) : -2147483648 ≤ x.toInt := Int32.le_toInt x
theorem xi_hi (x : Int32) : x.toInt < 2147483648 := by have := Int32.toInt_lt x; omega
theorem xi_toInt {a : Int} (h1 : -2147483648 ≤ a) (h2 : a < 2147483648) : (xi a).toInt = a := by
  unfold xi
  rw [Int32.toInt_ofInt_of_le (by omega) (by omega)]
theorem xi_add (a b : Int) : xi a + xi b = xi (a + b) := by
  unfold xi; exact (Int32.ofInt_add a b).symm
theorem xi_sub (a b : Int) : xi a - xi b = xi (a - b) := by
  unfold xi; exact (Int32.ofInt_sub a b).symm
theorem xi_mul (a b : Int) : xi a * xi b = xi (a * b) := by
  unfold xi; exact (Int32.ofInt_mul a b).symm
theorem xi_lt {a b : Int} (h1 : -2147483648 ≤ a) (h2 : a < 2147483648) (h3 : -2147483648 ≤ b) (h4 : b < 2147483648) : xi a < xi b ↔ a < b := by
  rw [Int32.lt_iff_toInt_lt, xi_toInt h1 h2, xi_toInt h3 h4]
theorem xi_eq {a b : Int} (h1 : -2147483648 ≤ a) (h2 : a < 2147483648) (h3 : -2147483648 ≤ b) (h4 : b < 2147483648) : xi a = xi b ↔ a = b := by
  rw [← Int32.toInt_inj, xi_toInt h1 h2, xi_toInt h3 h4]
theorem xi_clamp {a : Int} (h1 : 0 ≤ a) (h2 : a < 2147483648) : (xi a).toNatClampNeg = a.toNat := by
  show (xi a).toInt.toNat = a.toNat
  rw [xi_toInt (by omega) h2]
theorem xi_div {a b : Int} (h1 : 0 ≤ a) (h2 : a < 2147483648) (h3 : 0 < b) (h4 : b < 2147483648) : xi a / xi b = xi (a / b) := by
  apply Int32.toInt_inj.mp
  have hb : (xi b).toInt = b := xi_toInt (by omega) h4
  have ha : (xi a).toInt = a := xi_toInt (by omega) h2
  have h5 : 0 ≤ a / b := Int.ediv_nonneg h1 (by omega)
  have h6 : a / b ≤ a := Int.ediv_le_self b h1
  rw [Int32.toInt_div_of_ne_right _ _ (by
    intro e
    have := congrArg Int32.toInt e
    rw [hb] at this
    have h7 : (-1 : Int32).toInt = -1 := by decide
    rw [h7] at this
    omega), ha, hb, xi_toInt (by omega) (by omega), Int.tdiv_eq_ediv_of_nonneg h1]
theorem xi_rem {a b : Int} (h1 : 0 ≤ a) (h2 : a < 2147483648) (h3 : 0 < b) (h4 : b < 2147483648) : xi a - xi a / xi b * xi b = xi (a % b) := by
  rw [xi_div h1 h2 h3 h4, xi_mul, xi_sub]
  rw [Int.emod_def, Int.mul_comm]
theorem xi_nz {b : Int} (h3 : 0 < b) (h4 : b < 2147483648) : ¬ xi b = 0 := by
  rw [show (0 : Int32) = xi 0 from rfl, xi_eq (by omega) h4 (by omega) (by omega)]
  omega
