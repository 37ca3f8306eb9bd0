/-! ===== the pure part: ints of 32 bits as Ints ===== -/
/-- an Int as an int -/
def iv (n : Int) : Int32 := Int32.ofInt n
theorem iv_add (a b : Int) : iv a + iv b = iv (a + b) := (Int32.ofInt_add a b).symm
theorem iv_sub (a b : Int) : iv a - iv b = iv (a - b) := (Int32.ofInt_sub a b).symm
theorem iv_mul (a b : Int) : iv a * iv b = iv (a * b) := (Int32.ofInt_mul a b).symm
theorem iv_neg (a : Int) : -iv a = iv (-a) := (Int32.ofInt_neg a).symm
theorem iv_0 : (0 : Int32) = iv 0 := rfl
theorem iv_1 : (1 : Int32) = iv 1 := rfl
theorem iv_lit (n : Nat) : (OfNat.ofNat n : Int32) = iv (OfNat.ofNat n : Nat) := Int32.ofInt_eq_ofNat.symm
theorem iv_toInt {a : Int} (h1 : -2147483648 ≤ a) (h2 : a < 2147483648) : (iv a).toInt = a := Int32.toInt_ofInt_of_le (by omega) (by omega)
theorem iv_of (x : Int32) : iv x.toInt = x := Int32.ofInt_toInt x
theorem iv_lt {a b : Int} (h1 : -2147483648 ≤ a) (h2 : a < 2147483648) (h3 : -2147483648 ≤ b) (h4 : b < 2147483648) : (iv a < iv b) = (a < b) := by
  rw [Int32.lt_iff_toInt_lt, iv_toInt h1 h2, iv_toInt h3 h4]
theorem iv_le {a b : Int} (h1 : -2147483648 ≤ a) (h2 : a < 2147483648) (h3 : -2147483648 ≤ b) (h4 : b < 2147483648) : (iv a ≤ iv b) = (a ≤ b) := by
  rw [Int32.le_iff_toInt_le, iv_toInt h1 h2, iv_toInt h3 h4]
theorem iv_eq {a b : Int} (h1 : -2147483648 ≤ a) (h2 : a < 2147483648) (h3 : -2147483648 ≤ b) (h4 : b < 2147483648) : (iv a = iv b) = (a = b) := by
  rw [← Int32.toInt_inj, iv_toInt h1 h2, iv_toInt h3 h4]
theorem iv_idx {a : Int} (h1 : 0 ≤ a) (h2 : a < 2147483648) : (iv a).toNatClampNeg = a.toNat := Int32.toNatClampNeg_ofInt_of_le (by omega) (by omega)
theorem iv_rd {n : Nat} {f : Nat → Int32} {a : Int} (h1 : 0 ≤ a) (h2 : a < n) (hn : n ≤ 100000) : bw_rd n f (iv a) = some (f a.toNat) := by
  unfold bw_rd
  rw [if_neg, iv_idx h1 (by omega)]
  rw [iv_idx h1 (by omega), iv_0, iv_lt (by omega) (by omega) (by omega) (by omega)]
  omega
theorem iv_wr {n : Nat} {f : Nat → Int32} {a : Int} {x : Int32} (h1 : 0 ≤ a) (h2 : a < n) (hn : n ≤ 100000) : bw_wr n f (iv a) x = some (upd f a.toNat x) := by
  unfold bw_wr
  rw [if_neg, iv_idx h1 (by omega)]
  rw [iv_idx h1 (by omega), iv_0, iv_lt (by omega) (by omega) (by omega) (by omega)]
  omega
theorem iv_div {a b : Int} (h1 : 0 ≤ a) (h2 : a < 2147483648) (h3 : 0 < b) (h4 : b < 2147483648) : iv a / iv b = iv (a / b) := by
  have h := Int32.ofInt_tdiv (a := a) (b := b) (by show (-2147483648 : Int) ≤ a; omega) (by show a ≤ (2147483647 : Int); omega) (by show (-2147483648 : Int) ≤ b; omega) (by show b ≤ (2147483647 : Int); omega)
  rw [Int.tdiv_eq_ediv_of_nonneg h1] at h
  exact h.symm
