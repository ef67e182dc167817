/-! whole numbers for the machine's ints -/
def ii (x : Int) : Int32 := Int32.ofInt x
theorem ii_toInt (x : Int32) : ii x.toInt = x := by simp [ii]
theorem toInt_ii {x : Int} (h1 : -2147483648 ≤ x) (h2 : x < 2147483648) : (ii x).toInt = x := by
  unfold ii
  rw [Int32.toInt_ofInt, show Int32.size = 4294967296 from rfl]
  exact Int.bmod_eq_of_le (by omega) (by omega)
theorem ii_add (x y : Int) : ii x + ii y = ii (x + y) := by simp [ii, Int32.ofInt_add]
theorem ii_sub (x y : Int) : ii x - ii y = ii (x - y) := by simp [ii, Int32.ofInt_sub]
theorem ii_mul (x y : Int) : ii x * ii y = ii (x * y) := by simp [ii, Int32.ofInt_mul]
theorem ii_neg (x : Int) : -ii x = ii (-x) := by simp [ii, Int32.ofInt_neg]
theorem ii_lt {x y : Int} (h1 : -2147483648 ≤ x) (h2 : x < 2147483648) (h3 : -2147483648 ≤ y) (h4 : y < 2147483648) : (ii x < ii y) ↔ x < y := by
  rw [Int32.lt_iff_toInt_lt, toInt_ii h1 h2, toInt_ii h3 h4]
theorem ii_le {x y : Int} (h1 : -2147483648 ≤ x) (h2 : x < 2147483648) (h3 : -2147483648 ≤ y) (h4 : y < 2147483648) : (ii x ≤ ii y) ↔ x ≤ y := by
  rw [Int32.le_iff_toInt_le, toInt_ii h1 h2, toInt_ii h3 h4]
theorem ii_eq {x y : Int} (h1 : -2147483648 ≤ x) (h2 : x < 2147483648) (h3 : -2147483648 ≤ y) (h4 : y < 2147483648) : (ii x = ii y) ↔ x = y := by
  rw [← Int32.toInt_inj, toInt_ii h1 h2, toInt_ii h3 h4]
theorem ii_div {x y : Int} (h1 : 0 ≤ x) (h2 : x < 2147483648) (h3 : 0 < y) (h4 : y < 2147483648) : ii x / ii y = ii (x / y) := by
  rw [← Int32.toInt_inj, Int32.toInt_div, toInt_ii (by omega) h2, toInt_ii (by omega) h4, Int.tdiv_eq_ediv_of_nonneg h1]
  have h5 : 0 ≤ x / y := Int.ediv_nonneg h1 (by omega)
  have h6 : x / y ≤ x := Int.ediv_le_self y h1
  rw [toInt_ii (by omega) (by omega)]
  exact Int.bmod_eq_of_le (by omega) (by omega)
/-- division cut towards 0, by a number above 0 -/
def td (x y : Int) : Int := if x < 0 then -((-x) / y) else x / y
theorem ii_td {x y : Int} (h1 : -2147483648 < x) (h2 : x < 2147483648) (h3 : 0 < y) (h4 : y < 2147483648) : ii x / ii y = ii (td x y) := by
  unfold td
  by_cases h : x < 0
  · rw [if_pos h]
    rw [← Int32.toInt_inj, Int32.toInt_div, toInt_ii (by omega) h2, toInt_ii (by omega) h4]
    have h5 : 0 ≤ (-x) / y := Int.ediv_nonneg (by omega) (by omega)
    have h6 : (-x) / y ≤ -x := Int.ediv_le_self y (by omega)
    have h7 : x.tdiv y = -((-x) / y) := by
      rw [← Int.tdiv_eq_ediv_of_nonneg (by omega), Int.neg_tdiv, Int.neg_neg]
    rw [toInt_ii (by omega) (by omega), h7]
    exact Int.bmod_eq_of_le (by omega) (by omega)
  · rw [if_neg h]
    exact ii_div (by omega) h2 h3 h4
theorem ii_nI (n : Nat) : Int32.ofNat n = ii (n : Int) := by
  unfold ii
  first | rfl | exact (Int32.ofInt_natCast n).symm | exact (Int32.ofInt_eq_ofNat).symm
theorem ii_clamp {x : Int} (h1 : 0 ≤ x) (h2 : x < 2147483648) : (ii x).toNatClampNeg = x.toNat := by
  unfold Int32.toNatClampNeg
  rw [toInt_ii (by omega) h2]
theorem ii_lits : (0 : Int32) = ii 0 ∧ (1 : Int32) = ii 1 ∧ (2 : Int32) = ii 2 ∧ (3 : Int32) = ii 3 ∧ (4 : Int32) = ii 4 ∧ (5 : Int32) = ii 5 ∧ (6 : Int32) = ii 6 ∧ (7 : Int32) = ii 7 ∧ (8 : Int32) = ii 8 ∧ (9 : Int32) = ii 9 ∧ (10 : Int32) = ii 10 ∧ (11 : Int32) = ii 11 ∧ (12 : Int32) = ii 12 ∧ (16 : Int32) = ii 16 ∧ (17 : Int32) = ii 17 ∧ (18 : Int32) = ii 18 ∧ (19 : Int32) = ii 19 ∧ (20 : Int32) = ii 20 ∧ (21 : Int32) = ii 21 ∧ (22 : Int32) = ii 22 ∧ (23 : Int32) = ii 23 ∧ (24 : Int32) = ii 24 ∧ (25 : Int32) = ii 25 ∧ (28 : Int32) = ii 28 ∧ (30 : Int32) = ii 30 ∧ (32 : Int32) = ii 32 ∧ (40 : Int32) = ii 40 ∧ (56 : Int32) = ii 56 ∧ (99 : Int32) = ii 99 ∧ (100 : Int32) = ii 100 ∧ (112 : Int32) = ii 112 ∧ (250 : Int32) = ii 250 ∧ (255 : Int32) = ii 255 ∧ (301 : Int32) = ii 301 ∧ (400 : Int32) = ii 400 ∧ (999 : Int32) = ii 999 ∧ (1000 : Int32) = ii 1000 ∧ (1204 : Int32) = ii 1204 ∧ (99999999 : Int32) = ii 99999999 ∧ (65536 : Int32) = ii 65536 ∧ (-1 : Int32) = ii (-1) ∧ (-3 : Int32) = ii (-3) ∧ (-9 : Int32) = ii (-9) ∧ (-10 : Int32) = ii (-10) ∧ (-1000000001 : Int32) = ii (-1000000001) ∧ (-1000000002 : Int32) = ii (-1000000002) ∧ (-1000000003 : Int32) = ii (-1000000003) ∧ (-1000000004 : Int32) = ii (-1000000004) := by decide
/-- of two, by the machine's compare -/
theorem ii_max {x y : Int} (h1 : -2147483648 ≤ x) (h2 : x < 2147483648) (h3 : -2147483648 ≤ y) (h4 : y < 2147483648) : (if ii x < ii y then ii y else ii x) = ii (max x y) := by
  rw [show (if ii x < ii y then ii y else ii x) = if x < y then ii y else ii x from by simp only [ii_lt h1 h2 h3 h4]]
  by_cases h : x < y
  · rw [if_pos h, Int.max_eq_right (by omega)]
  · rw [if_neg h, Int.max_eq_left (by omega)]
theorem ii_min {x y : Int} (h1 : -2147483648 ≤ x) (h2 : x < 2147483648) (h3 : -2147483648 ≤ y) (h4 : y < 2147483648) : (if ii y < ii x then ii y else ii x) = ii (min x y) := by
  rw [show (if ii y < ii x then ii y else ii x) = if y < x then ii y else ii x from by simp only [ii_lt h3 h4 h1 h2]]
  by_cases h : y < x
  · rw [if_pos h, Int.min_eq_right (by omega)]
  · rw [if_neg h, Int.min_eq_left (by omega)]
theorem ii_abs {x : Int} (h1 : -2147483648 < x) (h2 : x < 2147483648) : (if ii 0 ≤ ii x then ii x else ii 0 - ii x) = ii x.natAbs := by
  rw [show (if ii 0 ≤ ii x then ii x else ii 0 - ii x) = if 0 ≤ x then ii x else ii 0 - ii x from by simp only [ii_le (x := 0) (by omega) (by omega) (by omega : -2147483648 ≤ x) h2]]
  by_cases h : 0 ≤ x
  · rw [if_pos h]
    congr 1
    omega
  · rw [if_neg h, ii_sub]
    congr 1
    omega
