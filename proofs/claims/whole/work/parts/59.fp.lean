/- needs: 56.ops5 -/
/-! ===== doubles: the quotient of two whole numbers, and its bits ===== -/
theorem bq_t : FP.Core.b64.tails = 4503599627370496 := by decide +kernel
theorem bq_e : FP.Core.b64.exps = 2048 := by decide +kernel
theorem bq_m : FP.Core.b64.qmin = -1074 := by decide +kernel
theorem bq_x : FP.Core.b64.qmax = 971 := by decide +kernel
theorem bq_p : FP.Core.b64.p = 53 := by decide +kernel
theorem bq_pp : (2 : Nat) ^ FP.Core.b64.p = 9007199254740992 := by decide +kernel
theorem bq_52 : (2 : Nat) ^ 52 = 4503599627370496 := by decide +kernel
theorem bq_53 : (2 : Nat) ^ 53 = 9007199254740992 := by decide +kernel
theorem bq_104 : (2 : Nat) ^ 104 = 20282409603651670423947251286016 := by decide +kernel
theorem bq_105 : (2 : Nat) ^ (104 + 1) = 40564819207303340847894502572032 := by decide +kernel
/-- the bits of c * 2^(E - 1075) -/
def bqw (c E : Nat) : Nat := E * 4503599627370496 + (c - 4503599627370496)
theorem bq_enc {c : Nat} {q : Int} (h1 : 4503599627370496 ≤ c) (h3 : -1074 ≤ q) : FP.Core.encode FP.Core.b64 (.fin false c q) = bqw c (q + 1075).toNat := by
  show (if c < FP.Core.b64.tails then FP.Core.assemble FP.Core.b64 false 0 c else FP.Core.assemble FP.Core.b64 false ((q - FP.Core.b64.qmin).toNat + 1) (c - FP.Core.b64.tails)) = _
  rw [bq_t, bq_m, if_neg (by omega), show (q - -1074).toNat + 1 = (q + 1075).toNat by omega]
  unfold FP.Core.assemble bqw
  rw [bq_t, bq_e]
  show (0 * 2048 + (q + 1075).toNat) * 4503599627370496 + (c - 4503599627370496) = _
  rw [Nat.zero_mul, Nat.zero_add]
theorem bq_dec {c E : Nat} (h1 : 4503599627370496 ≤ c) (h2 : c < 9007199254740992) (h3 : 1 ≤ E) (h4 : E ≤ 2046) : FP.Core.decode FP.Core.b64 (bqw c E) = .fin false c ((E : Int) - 1075) := by
  have hT : FP.Core.fieldT FP.Core.b64 (bqw c E) = c - 4503599627370496 := by
    unfold FP.Core.fieldT bqw
    rw [bq_t]
    omega
  have hE : FP.Core.fieldE FP.Core.b64 (bqw c E) = E := by
    unfold FP.Core.fieldE bqw
    rw [bq_t, bq_e]
    omega
  have hS : FP.Core.fieldS FP.Core.b64 (bqw c E) = false := by
    unfold FP.Core.fieldS bqw
    rw [bq_t, bq_e]
    have h : (E * 4503599627370496 + (c - 4503599627370496)) / 4503599627370496 / 2048 % 2 = 0 := by omega
    rw [h]
    rfl
  unfold FP.Core.decode
  rw [hE, hT, hS, bq_e, bq_t, bq_m, if_neg (by omega), if_neg (by omega), show 4503599627370496 + (c - 4503599627370496) = c by omega, show (-1074 : Int) + ((E : Int) - 1) = (E : Int) - 1075 by omega]
theorem bq_tn {c E : Nat} (h2 : c < 9007199254740992) (h4 : E ≤ 2046) : (UInt64.ofNat (bqw c E)).toNat = bqw c E := by
  apply UInt64.toNat_ofNat_of_lt'
  show bqw c E < 18446744073709551616
  unfold bqw
  omega
theorem bq_num {α : Type} {c E : Nat} (h2 : c < 9007199254740992) (h4 : E ≤ 2046) (r : Option α) : bw_num (UInt64.ofNat (bqw c E)) r = r := by
  unfold bw_num
  refine if_pos ?_
  rw [UInt64.le_iff_toNat_le, UInt64.toNat_and, bq_tn h2 h4]
  have e : (0x7fffffffffffffff : UInt64).toNat = 2 ^ 63 - 1 := by decide +kernel
  have e2 : (0x7ff0000000000000 : UInt64).toNat = 9218868437227405312 := by decide +kernel
  rw [e, e2, Nat.and_two_pow_sub_one_eq_mod]
  refine Nat.le_trans (Nat.mod_le _ _) ?_
  unfold bqw
  omega
theorem bq_num0 {α : Type} (r : Option α) : bw_num 0 r = r := if_pos (by decide +kernel)
/-- a datum's bits, read again -/
theorem bq_w {c : Nat} {q : Int} (h1 : 4503599627370496 ≤ c) (h2 : c < 9007199254740992) (h3 : -1074 ≤ q) (h4 : q ≤ 971) : FP.Core.decode FP.Core.b64 (UInt64.ofNat (FP.Core.encode FP.Core.b64 (.fin false c q))).toNat = .fin false c q := by
  rw [bq_enc h1 h3, bq_tn h2 (by omega), bq_dec h1 h2 (by omega) (by omega), show ((q + 1075).toNat : Int) - 1075 = q by omega]
theorem bq_near1 (x : Nat) : FP.Core.nearest x 1 = x := by
  unfold FP.Core.nearest
  rw [Nat.mod_one, if_pos (by omega), Nat.div_one]
theorem bq_nearM (x : Nat) {m : Nat} (hm : 0 < m) : FP.Core.nearest (x * m) m = x := by
  unfold FP.Core.nearest
  rw [Nat.mul_mod_left, if_pos (by omega), Nat.mul_div_cancel _ hm]
theorem bq_near_lo {A B M : Nat} (hB : 0 < B) (h : M * B ≤ A) : M ≤ FP.Core.nearest A B := by
  have h1 : M ≤ A / B := (Nat.le_div_iff_mul_le hB).mpr h
  unfold FP.Core.nearest
  generalize A / B = d at h1 ⊢
  split
  · exact h1
  · split <;> omega
theorem bq_near_hi {A B M : Nat} (hB : 0 < B) (h : A ≤ M * B) : FP.Core.nearest A B ≤ M := by
  have h1 : A / B ≤ M := Nat.div_le_of_le_mul (by rw [Nat.mul_comm]; exact h)
  have h2 : A / B = M → A % B = 0 := by
    intro hM
    have h3 := Nat.div_add_mod A B
    rw [hM, Nat.mul_comm] at h3
    generalize M * B = t at h h3
    omega
  unfold FP.Core.nearest
  generalize A / B = d at h1 h2 ⊢
  generalize A % B = r at h2 ⊢
  by_cases hM : d = M
  · rw [h2 hM, if_pos (by omega)]
    exact h1
  · split
    · exact h1
    · split <;> omega
theorem bq_lead (A B : Nat) {k : Int} (hk : (A.log2 : Int) - (B.log2 : Int) = k) : FP.Core.leading A B = if B * 2 ^ k.toNat ≤ A * 2 ^ (-k).toNat then k else k - 1 := by
  subst hk
  rfl
theorem bq_lead1 {A L : Nat} (h : A ≠ 0) (hL : A.log2 = L) : FP.Core.leading A 1 = (L : Int) := by
  have h1 : (1 : Nat).log2 = 0 := by decide +kernel
  have h2 := Nat.log2_self_le h
  rw [hL] at h2
  rw [bq_lead A 1 (k := (L : Int)) (by rw [h1, hL]; omega)]
  refine if_pos ?_
  rw [show ((L : Int)).toNat = L by omega, show (-(L : Int)).toNat = 0 by omega, Nat.pow_zero, Nat.mul_one, Nat.one_mul]
  exact h2
theorem bq_qu {A B : Nat} {e l : Int} (hl : FP.Core.leading A B = l) (h : -1074 ≤ l + e - 52) : FP.Core.quantum FP.Core.b64 A B e = l + e - 52 := by
  subst hl
  unfold FP.Core.quantum
  rw [bq_m, bq_p]
  omega
theorem bq_rr {s : Bool} {A B : Nat} {e q : Int} (hA : A ≠ 0) (hq : FP.Core.quantum FP.Core.b64 A B e = q) : FP.Core.roundRatio FP.Core.b64 s A B e = FP.Core.settle FP.Core.b64 s (FP.Core.nearest (A * 2 ^ (e - q).toNat) (B * 2 ^ (q - e).toNat)) q := by
  subst hq
  unfold FP.Core.roundRatio
  rw [if_neg hA]
  rfl
theorem bq_set {s : Bool} {c : Nat} {q : Int} (h : c < 9007199254740992) (hq : q ≤ 971) : FP.Core.settle FP.Core.b64 s c q = .fin s c q := by
  unfold FP.Core.settle FP.Core.bound
  rw [bq_pp, if_pos h, bq_x, if_pos hq]
theorem bq_car {s : Bool} {c : Nat} {q : Int} (h : ¬c < 9007199254740992) (hq : q + 1 ≤ 971) : FP.Core.settle FP.Core.b64 s c q = .fin s 4503599627370496 (q + 1) := by
  unfold FP.Core.settle FP.Core.bound
  rw [bq_pp, if_neg h, bq_x, if_pos hq, bq_t]
theorem bq_log {c : Nat} (h1 : 4503599627370496 ≤ c) (h2 : c < 9007199254740992) : c.log2 = 52 := by
  refine (Nat.log2_eq_iff (by omega)).mpr ⟨?_, ?_⟩
  · rw [bq_52]; exact h1
  · show c < 2 ^ 53
    rw [bq_53]; exact h2
/-- a whole number's leading digit at its place -/
theorem bq_nrm {A L : Nat} (hA : A ≠ 0) (hL : A.log2 = L) (h : L ≤ 52) : 4503599627370496 ≤ A * 2 ^ (52 - L) ∧ A * 2 ^ (52 - L) < 9007199254740992 := by
  subst hL
  have h1 := Nat.log2_self_le hA
  have h2 := @Nat.lt_log2_self A
  have e1 : 2 ^ A.log2 * 2 ^ (52 - A.log2) = 4503599627370496 := by
    rw [← Nat.pow_add, show A.log2 + (52 - A.log2) = 52 by omega]
  have e2 : 2 ^ (A.log2 + 1) * 2 ^ (52 - A.log2) = 9007199254740992 := by
    rw [← Nat.pow_add, show A.log2 + 1 + (52 - A.log2) = 53 by omega]
  refine ⟨?_, ?_⟩
  · rw [← e1]
    exact Nat.mul_le_mul_right _ h1
  · rw [← e2]
    exact Nat.mul_lt_mul_of_pos_right h2 (Nat.two_pow_pos _)
theorem bq_r1 {s : Bool} {A L : Nat} {e : Int} (hA : A ≠ 0) (hL : A.log2 = L) (h52 : L ≤ 52) (he : -900 ≤ e ∧ e ≤ 900) : FP.Core.roundRatio FP.Core.b64 s A 1 e = .fin s (A * 2 ^ (52 - L)) ((L : Int) + e - 52) := by
  have hn := bq_nrm hA hL h52
  rw [bq_rr hA (bq_qu (bq_lead1 hA hL) (by omega)), show (e - ((L : Int) + e - 52)).toNat = 52 - L by omega, show ((L : Int) + e - 52 - e).toNat = 0 by omega, Nat.pow_zero, Nat.mul_one, bq_near1, bq_set hn.2 (by omega)]
theorem bq_r2 {s : Bool} {c : Nat} {e : Int} (h1 : 4503599627370496 ≤ c) (h2 : c < 9007199254740992) (he : -900 ≤ e ∧ e ≤ 800) : FP.Core.roundRatio FP.Core.b64 s (c * 4503599627370496) 1 e = .fin s c (e + 52) := by
  have hL : (c * 4503599627370496).log2 = 104 := by
    refine (Nat.log2_eq_iff (by omega)).mpr ⟨?_, ?_⟩
    · rw [bq_104]; omega
    · rw [bq_105]; omega
  have hq : FP.Core.quantum FP.Core.b64 (c * 4503599627370496) 1 e = e + 52 := by
    rw [bq_qu (bq_lead1 (by omega) hL) (by omega)]
    omega
  rw [bq_rr (by omega) hq, show (e - (e + 52)).toNat = 0 by omega, show (e + 52 - e).toNat = 52 by omega, Nat.pow_zero, Nat.mul_one, Nat.one_mul, bq_52, bq_nearM _ (by omega), bq_set h2 (by omega)]
theorem bq_rd {s : Bool} {c d : Nat} {e : Int} (h1 : 4503599627370496 ≤ c) (h2 : c < 9007199254740992) (h3 : 4503599627370496 ≤ d) (h4 : d < 9007199254740992) (he : -100 ≤ e ∧ e ≤ 0) (h5 : e = 0 → c ≤ d) : ∃ (c' : Nat) (q' : Int), 4503599627370496 ≤ c' ∧ c' < 9007199254740992 ∧ -200 ≤ q' ∧ q' ≤ -52 ∧ FP.Core.roundRatio FP.Core.b64 s c d e = .fin s c' q' := by
  have hl := bq_lead c d (k := 0) (by rw [bq_log h1 h2, bq_log h3 h4]; omega)
  have t0 : (0 : Int).toNat = 0 := rfl
  have t1 : (-(0 : Int)).toNat = 0 := rfl
  rw [t0, t1, Nat.pow_zero, Nat.mul_one, Nat.mul_one] at hl
  by_cases hcd : d ≤ c
  · rw [if_pos hcd] at hl
    have hq : FP.Core.quantum FP.Core.b64 c d e = e - 52 := by
      rw [bq_qu hl (by omega)]
      omega
    rw [bq_rr (by omega) hq, show (e - (e - 52)).toNat = 52 by omega, show (e - 52 - e).toNat = 0 by omega, Nat.pow_zero, Nat.mul_one, bq_52]
    have lo := bq_near_lo (A := c * 4503599627370496) (B := d) (M := 4503599627370496) (by omega) (by omega)
    have hi : e = 0 → FP.Core.nearest (c * 4503599627370496) d ≤ 9007199254740991 := fun h => bq_near_hi (by omega) (by have := h5 h; omega)
    have hj := bq_near_hi (A := c * 4503599627370496) (B := d) (M := 9007199254740992) (by omega) (by omega)
    generalize FP.Core.nearest (c * 4503599627370496) d = n at lo hi hj ⊢
    by_cases hn : n < 9007199254740992
    · exact ⟨n, e - 52, lo, hn, by omega, by omega, bq_set hn (by omega)⟩
    · exact ⟨4503599627370496, e - 52 + 1, by omega, by omega, by omega, by omega, bq_car hn (by omega)⟩
  · rw [if_neg hcd] at hl
    have hq : FP.Core.quantum FP.Core.b64 c d e = e - 53 := by
      rw [bq_qu hl (by omega)]
      omega
    rw [bq_rr (by omega) hq, show (e - (e - 53)).toNat = 53 by omega, show (e - 53 - e).toNat = 0 by omega, Nat.pow_zero, Nat.mul_one, bq_53]
    have lo := bq_near_lo (A := c * 9007199254740992) (B := d) (M := 4503599627370496) (by omega) (by omega)
    have hj := bq_near_hi (A := c * 9007199254740992) (B := d) (M := 9007199254740992) (by omega) (by omega)
    generalize FP.Core.nearest (c * 9007199254740992) d = n at lo hj ⊢
    by_cases hn : n < 9007199254740992
    · exact ⟨n, e - 53, lo, hn, by omega, by omega, bq_set hn (by omega)⟩
    · exact ⟨4503599627370496, e - 53 + 1, by omega, by omega, by omega, by omega, bq_car hn (by omega)⟩
/-- a whole number as a double -/
theorem bq_i2d {a : Int} (h1 : 0 < a) (h2 : a ≤ 100000) : ∃ L : Nat, L ≤ 16 ∧ a.toNat.log2 = L ∧ FP.Core.decode FP.Core.b64 (FP.i2d (iv a)).toNat = .fin false (a.toNat * 2 ^ (52 - L)) ((L : Int) - 52) := by
  have hA : a.toNat ≠ 0 := by omega
  have hL : a.toNat.log2 < 17 := (Nat.log2_lt hA).mpr (by
    have e : (2 : Nat) ^ 17 = 131072 := by decide +kernel
    rw [e]
    omega)
  have hn := bq_nrm hA rfl (show a.toNat.log2 ≤ 52 by omega)
  refine ⟨a.toNat.log2, by omega, rfl, ?_⟩
  have e1 : FP.i2d (iv a) = UInt64.ofNat (FP.Core.encode FP.Core.b64 (.fin false (a.toNat * 2 ^ (52 - a.toNat.log2)) ((a.toNat.log2 : Int) - 52))) := by
    show UInt64.ofNat (FP.Core.encode FP.Core.b64 (FP.Core.roundRatio FP.Core.b64 (decide ((iv a).toInt < 0)) (iv a).toInt.natAbs 1 0)) = _
    rw [iv_toInt (by omega) (by omega), show a.natAbs = a.toNat by omega, decide_eq_false (show ¬a < 0 by omega), bq_r1 hA rfl (by omega) (by omega), show (a.toNat.log2 : Int) + 0 - 52 = (a.toNat.log2 : Int) - 52 by omega]
  rw [e1, bq_w hn.1 hn.2 (by omega) (by omega)]
/-- the share: c * 2^(E - 1075), at most two -/
theorem bq_share {a b : Int} (ha : 0 < a ∧ a ≤ b) (hb : b ≤ 100000) : ∃ c E : Nat, 4503599627370496 ≤ c ∧ c < 9007199254740992 ∧ 800 ≤ E ∧ E ≤ 1023 ∧ FP.ddiv (FP.i2d (iv a)) (FP.i2d (iv b)) = UInt64.ofNat (bqw c E) := by
  obtain ⟨L, l1, l2, l3⟩ := bq_i2d ha.1 (by omega)
  obtain ⟨K, k1, k2, k3⟩ := bq_i2d (a := b) (by omega) hb
  have hA : a.toNat ≠ 0 := by omega
  have hB : b.toNat ≠ 0 := by omega
  have hLK : L ≤ K := by
    rw [← l2, ← k2]
    exact (Nat.le_log2 hB).mpr (Nat.le_trans (Nat.log2_self_le hA) (by omega))
  have n1 := bq_nrm hA l2 (by omega)
  have n2 := bq_nrm hB k2 (by omega)
  have h5 : (L : Int) - 52 - ((K : Int) - 52) = 0 → a.toNat * 2 ^ (52 - L) ≤ b.toNat * 2 ^ (52 - K) := by
    intro h
    have e : L = K := by omega
    rw [e]
    exact Nat.mul_le_mul_right _ (by omega)
  obtain ⟨c, q, c1, c2, c3, c4, c5⟩ := bq_rd (s := false) n1.1 n1.2 n2.1 n2.2 (e := (L : Int) - 52 - ((K : Int) - 52)) (by omega) h5
  refine ⟨c, (q + 1075).toNat, c1, c2, by omega, by omega, ?_⟩
  have e : FP.ddiv (FP.i2d (iv a)) (FP.i2d (iv b)) = UInt64.ofNat (FP.Core.encode FP.Core.b64 (FP.Core.quotient FP.Core.b64 (FP.Core.decode FP.Core.b64 (FP.i2d (iv a)).toNat) (FP.Core.decode FP.Core.b64 (FP.i2d (iv b)).toNat))) := rfl
  have e2 : FP.Core.quotient FP.Core.b64 (.fin false (a.toNat * 2 ^ (52 - L)) ((L : Int) - 52)) (.fin false (b.toNat * 2 ^ (52 - K)) ((K : Int) - 52)) = FP.Core.roundRatio FP.Core.b64 false (a.toNat * 2 ^ (52 - L)) (b.toNat * 2 ^ (52 - K)) ((L : Int) - 52 - ((K : Int) - 52)) := by
    show (if b.toNat * 2 ^ (52 - K) = 0 then (if a.toNat * 2 ^ (52 - L) = 0 then FP.Core.Datum.nan else FP.Core.Datum.inf (false != false)) else FP.Core.roundRatio FP.Core.b64 (false != false) (a.toNat * 2 ^ (52 - L)) (b.toNat * 2 ^ (52 - K)) ((L : Int) - 52 - ((K : Int) - 52))) = _
    rw [if_neg (by omega)]
    rfl
  rw [e, l3, k3, e2, c5, bq_enc c1 (by omega)]
theorem bq_share0 {b : Int} (h1 : 0 < b) (h2 : b ≤ 100000) : FP.ddiv (FP.i2d (iv 0)) (FP.i2d (iv b)) = 0 := by
  obtain ⟨K, k1, k2, k3⟩ := bq_i2d h1 h2
  have n2 := bq_nrm (show b.toNat ≠ 0 by omega) k2 (by omega)
  have e : FP.ddiv (FP.i2d (iv 0)) (FP.i2d (iv b)) = UInt64.ofNat (FP.Core.encode FP.Core.b64 (FP.Core.quotient FP.Core.b64 (FP.Core.decode FP.Core.b64 (FP.i2d (iv 0)).toNat) (FP.Core.decode FP.Core.b64 (FP.i2d (iv b)).toNat))) := rfl
  have e0 : FP.Core.decode FP.Core.b64 (FP.i2d (iv 0)).toNat = .fin false 0 (-1074) := by decide +kernel
  have e2 : FP.Core.quotient FP.Core.b64 (.fin false 0 (-1074)) (.fin false (b.toNat * 2 ^ (52 - K)) ((K : Int) - 52)) = .fin false 0 (-1074) := by
    show (if b.toNat * 2 ^ (52 - K) = 0 then (if (0 : Nat) = 0 then FP.Core.Datum.nan else FP.Core.Datum.inf (false != false)) else FP.Core.roundRatio FP.Core.b64 (false != false) 0 (b.toNat * 2 ^ (52 - K)) ((-1074 : Int) - ((K : Int) - 52))) = _
    rw [if_neg (by omega)]
    unfold FP.Core.roundRatio
    rw [if_pos rfl, bq_m]
    rfl
  rw [e, e0, k3, e2]
  decide +kernel
/-! ===== the bits of a share as the class makes them ===== -/
theorem bq_one : FP.Core.decode FP.Core.b64 FP.dconst1.toNat = .fin false 4503599627370496 (-52) := by decide +kernel
theorem bq_zero : FP.Core.decode FP.Core.b64 FP.dconst0.toNat = .fin false 0 (-1074) := by decide +kernel
theorem bq_two : FP.Core.decode FP.Core.b64 (4611686018427387904 : UInt64).toNat = .fin false 4503599627370496 (-51) := by decide +kernel
theorem bq_big : FP.Core.decode FP.Core.b64 (4841369599423283200 : UInt64).toNat = .fin false 4503599627370496 0 := by decide +kernel
theorem bq_cmp (a b : UInt64) : FP.dcmp a b = FP.Core.order (FP.Core.decode FP.Core.b64 a.toNat) (FP.Core.decode FP.Core.b64 b.toNat) := rfl
theorem bq_ord (c d : Nat) (q r : Int) : FP.Core.order (.fin false c q) (.fin false d r) = some (compareOfLessAndEq ((c * 2 ^ (q - min q r).toNat : Nat) : Int) ((d * 2 ^ (r - min q r).toNat : Nat) : Int)) := rfl
theorem bq_lt1 {c E : Nat} (h1 : 4503599627370496 ≤ c) (h2 : c < 9007199254740992) (h3 : 1 ≤ E) (h4 : E < 1023) : FP.dcmp (UInt64.ofNat (bqw c E)) FP.dconst1 = some .lt := by
  rw [bq_cmp, bq_tn h2 (by omega), bq_dec h1 h2 h3 (by omega), bq_one, bq_ord]
  obtain ⟨k, hk⟩ : ∃ k : Nat, ((-52 : Int) - min ((E : Int) - 1075) (-52)).toNat = k + 1 := ⟨((-52 : Int) - min ((E : Int) - 1075) (-52)).toNat - 1, by omega⟩
  rw [show ((E : Int) - 1075 - min ((E : Int) - 1075) (-52)).toNat = 0 by omega, hk, Nat.pow_zero, Nat.mul_one, Nat.pow_succ]
  have h5 : 1 ≤ 2 ^ k := Nat.one_le_two_pow
  generalize 2 ^ k = t at h5 ⊢
  unfold compareOfLessAndEq
  rw [if_pos (by omega)]
theorem bq_ge1 {c : Nat} (h1 : 4503599627370496 ≤ c) (h2 : c < 9007199254740992) : 0 ≤ Op.cmpValue (FP.dcmp (UInt64.ofNat (bqw c 1023)) FP.dconst1) CmpOp.g := by
  rw [bq_cmp, bq_tn h2 (by omega), bq_dec h1 h2 (by omega) (by omega), bq_one, bq_ord, show (((1023 : Nat) : Int) - 1075 - min (((1023 : Nat) : Int) - 1075) (-52)).toNat = 0 by omega, show ((-52 : Int) - min (((1023 : Nat) : Int) - 1075) (-52)).toNat = 0 by omega, Nat.pow_zero, Nat.mul_one]
  unfold compareOfLessAndEq
  rw [if_neg (by omega)]
  split
  · decide
  · decide
theorem bq_gt0 {c E : Nat} (h1 : 4503599627370496 ≤ c) (h2 : c < 9007199254740992) (h3 : 1 ≤ E) (h4 : E ≤ 1023) : 0 < Op.cmpValue (FP.dcmp (UInt64.ofNat (bqw c E)) FP.dconst0) CmpOp.g := by
  have h5 : 0 < c * 2 ^ ((E : Int) - 1075 - min ((E : Int) - 1075) (-1074)).toNat := Nat.mul_pos (by omega) (Nat.two_pow_pos _)
  rw [bq_cmp, bq_tn h2 (by omega), bq_dec h1 h2 h3 (by omega), bq_zero, bq_ord, Nat.zero_mul]
  generalize c * 2 ^ ((E : Int) - 1075 - min ((E : Int) - 1075) (-1074)).toNat = t at h5 ⊢
  unfold compareOfLessAndEq
  rw [if_neg (by omega), if_neg (by omega)]
  decide
theorem bq_self {c E : Nat} (h1 : 4503599627370496 ≤ c) (h2 : c < 9007199254740992) (h3 : 1 ≤ E) (h4 : E ≤ 1023) : Op.cmpValue (FP.dcmp (UInt64.ofNat (bqw c E)) (UInt64.ofNat (bqw c E))) CmpOp.l = 0 := by
  rw [bq_cmp, bq_tn h2 (by omega), bq_dec h1 h2 h3 (by omega), bq_ord]
  unfold compareOfLessAndEq
  rw [if_neg (Int.lt_irrefl _), if_pos rfl]
  rfl
theorem bq_mul (a b : UInt64) : FP.dmul a b = UInt64.ofNat (FP.Core.encode FP.Core.b64 (FP.Core.round FP.Core.b64 (FP.Core.exactProduct (FP.Core.decode FP.Core.b64 a.toNat) (FP.Core.decode FP.Core.b64 b.toNat)))) := rfl
/-- times a power of two -/
theorem bq_prod {c : Nat} {q r : Int} (h1 : 4503599627370496 ≤ c) (h2 : c < 9007199254740992) (he : -900 ≤ q + r ∧ q + r ≤ 800) : FP.Core.round FP.Core.b64 (FP.Core.exactProduct (.fin false c q) (.fin false 4503599627370496 r)) = .fin false c (q + r + 52) := by
  show FP.Core.roundRatio FP.Core.b64 (false != false) (c * 4503599627370496) 1 (q + r) = _
  rw [bq_r2 h1 h2 he]
  rfl
theorem bq_dbl {c E : Nat} (h1 : 4503599627370496 ≤ c) (h2 : c < 9007199254740992) (h3 : 800 ≤ E) (h4 : E < 1023) : FP.dmul (UInt64.ofNat (bqw c E)) 4611686018427387904 = UInt64.ofNat (bqw c (E + 1)) := by
  rw [bq_mul, bq_tn h2 (by omega), bq_dec h1 h2 (by omega) (by omega), bq_two, bq_prod h1 h2 (by omega), bq_enc h1 (by omega), show ((E : Int) - 1075 + -51 + 52 + 1075).toNat = E + 1 by omega]
theorem bq_or {c E : Nat} (h1 : 4503599627370496 ≤ c) (h2 : c < 9007199254740992) (h4 : E ≤ 1023) : (Int64.ofInt (E : Int) <<< (Int32.toInt64 52 &&& 63)) ||| Int64.ofInt ((c - 4503599627370496 : Nat) : Int) = UInt64.toInt64 (UInt64.ofNat (bqw c E)) := by
  have hm : c - 4503599627370496 < 2 ^ 52 := by rw [bq_52]; omega
  have es : (Int32.toInt64 52 &&& 63 : Int64).toBitVec.smod 64 = 52#64 := by decide +kernel
  have a1 : (Int64.ofInt (E : Int)).toBitVec.toNat = E := by
    show (BitVec.ofInt 64 (E : Int)).toNat = E
    rw [BitVec.toNat_ofInt]
    omega
  have a2 : (Int64.ofInt ((c - 4503599627370496 : Nat) : Int)).toBitVec.toNat = c - 4503599627370496 := by
    show (BitVec.ofInt 64 ((c - 4503599627370496 : Nat) : Int)).toNat = c - 4503599627370496
    rw [BitVec.toNat_ofInt]
    omega
  have a3 : (UInt64.toInt64 (UInt64.ofNat (bqw c E))).toBitVec.toNat = bqw c E := bq_tn h2 (by omega)
  have b1 : E <<< 52 = E * 4503599627370496 := by rw [Nat.shiftLeft_eq, bq_52]
  have b2 : E <<< 52 % 2 ^ 64 = E <<< 52 := Nat.mod_eq_of_lt (by rw [b1]; omega)
  apply Int64.toBitVec.inj
  rw [Int64.toBitVec_or, Int64.toBitVec_shiftLeft, es]
  apply BitVec.eq_of_toNat_eq
  rw [BitVec.toNat_or, BitVec.shiftLeft_eq', BitVec.toNat_shiftLeft, a1, a2, a3, show (52#64 : BitVec 64).toNat = 52 from rfl, b2, ← Nat.shiftLeft_add_eq_or_of_lt hm E, b1]
  rfl
/-- behind the loop: less one, times 2^52, a whole number -/
theorem bq_end {c : Nat} (h1 : 4503599627370496 ≤ c) (h2 : c < 9007199254740992) (x4 : Int64) : jX5_bitsOfShare_50 (UInt64.ofNat (bqw c 1023)) x4 = some ((x4 <<< (Int32.toInt64 52 &&& 63)) ||| Int64.ofInt ((c - 4503599627370496 : Nat) : Int)) := by
  unfold jX5_bitsOfShare_50
  rw [bw_let_s]
  by_cases hc : c = 4503599627370496
  · subst hc
    have e1 : FP.dsub (UInt64.ofNat (bqw 4503599627370496 1023)) FP.dconst1 = 0 := by decide +kernel
    have e2 : FP.dmul 0 4841369599423283200 = 0 := by decide +kernel
    have e3 : FP.d2l 0 = Int64.ofInt ((4503599627370496 - 4503599627370496 : Nat) : Int) := by decide +kernel
    rw [e1, bq_num0, bw_let_s, e2, bq_num0, bw_let_s, e3]
  · obtain ⟨m, hm⟩ : ∃ m : Nat, c = 4503599627370496 + m := ⟨c - 4503599627370496, by omega⟩
    have hm0 : m ≠ 0 := by omega
    have hL : m.log2 < 52 := (Nat.log2_lt hm0).mpr (by rw [bq_52]; omega)
    have hn := bq_nrm hm0 rfl (show m.log2 ≤ 52 by omega)
    have ed : FP.dsub (UInt64.ofNat (bqw c 1023)) FP.dconst1 = UInt64.ofNat (FP.Core.encode FP.Core.b64 (.fin false (m * 2 ^ (52 - m.log2)) ((m.log2 : Int) + -52 - 52))) := by
      have e0 : FP.dsub (UInt64.ofNat (bqw c 1023)) FP.dconst1 = UInt64.ofNat (FP.Core.encode FP.Core.b64 (FP.Core.round FP.Core.b64 (FP.Core.exactSum (FP.Core.decode FP.Core.b64 (UInt64.ofNat (bqw c 1023)).toNat) (FP.Core.negate (FP.Core.decode FP.Core.b64 FP.dconst1.toNat))))) := rfl
      have ev : FP.Core.sumUnits false c (((1023 : Nat) : Int) - 1075) true 4503599627370496 (-52) (min (((1023 : Nat) : Int) - 1075) (-52)) = (m : Int) := by
        show ((c * 2 ^ (((1023 : Nat) : Int) - 1075 - min (((1023 : Nat) : Int) - 1075) (-52)).toNat : Nat) : Int) + -((4503599627370496 * 2 ^ ((-52 : Int) - min (((1023 : Nat) : Int) - 1075) (-52)).toNat : Nat) : Int) = (m : Int)
        rw [show (((1023 : Nat) : Int) - 1075 - min (((1023 : Nat) : Int) - 1075) (-52)).toNat = 0 by omega, show ((-52 : Int) - min (((1023 : Nat) : Int) - 1075) (-52)).toNat = 0 by omega, Nat.pow_zero, Nat.mul_one, Nat.mul_one]
        omega
      have e1 : FP.Core.exactSum (.fin false c (((1023 : Nat) : Int) - 1075)) (FP.Core.negate (.fin false 4503599627370496 (-52))) = .fin false m (-52) := by
        show FP.Core.Datum.fin (FP.Core.sumSign false true (FP.Core.sumUnits false c (((1023 : Nat) : Int) - 1075) true 4503599627370496 (-52) (min (((1023 : Nat) : Int) - 1075) (-52)))) (FP.Core.sumUnits false c (((1023 : Nat) : Int) - 1075) true 4503599627370496 (-52) (min (((1023 : Nat) : Int) - 1075) (-52))).natAbs (min (((1023 : Nat) : Int) - 1075) (-52)) = _
        rw [ev, show (m : Int).natAbs = m by omega, show min (((1023 : Nat) : Int) - 1075) (-52) = -52 by omega]
        unfold FP.Core.sumSign
        rw [if_neg (by omega), decide_eq_false (by omega)]
      have e2 : FP.Core.round FP.Core.b64 (.fin false m (-52)) = .fin false (m * 2 ^ (52 - m.log2)) ((m.log2 : Int) + -52 - 52) := bq_r1 hm0 rfl (by omega) (by omega)
      rw [e0, bq_tn h2 (by omega), bq_dec h1 h2 (by omega) (by omega), bq_one, e1, e2]
    have hq : FP.dmul (UInt64.ofNat (FP.Core.encode FP.Core.b64 (.fin false (m * 2 ^ (52 - m.log2)) ((m.log2 : Int) + -52 - 52)))) 4841369599423283200 = UInt64.ofNat (FP.Core.encode FP.Core.b64 (.fin false (m * 2 ^ (52 - m.log2)) ((m.log2 : Int) + -52 - 52 + 0 + 52))) := by
      rw [bq_mul, bq_w hn.1 hn.2 (by omega) (by omega), bq_big, bq_prod hn.1 hn.2 (by omega)]
    have hl : FP.d2l (UInt64.ofNat (FP.Core.encode FP.Core.b64 (.fin false (m * 2 ^ (52 - m.log2)) ((m.log2 : Int) + -52 - 52 + 0 + 52)))) = Int64.ofInt (m : Int) := by
      have e0 : ∀ w : UInt64, FP.d2l w = Int64.ofInt (FP.Core.toInt (-2 ^ 63) (2 ^ 63 - 1) (FP.Core.decode FP.Core.b64 w.toNat)) := fun w => rfl
      rw [e0, bq_w hn.1 hn.2 (by omega) (by omega)]
      have e1 : FP.Core.truncate false (m * 2 ^ (52 - m.log2)) ((m.log2 : Int) + -52 - 52 + 0 + 52) = (m : Int) := by
        show ((m * 2 ^ (52 - m.log2) * 2 ^ ((m.log2 : Int) + -52 - 52 + 0 + 52).toNat / 2 ^ (-((m.log2 : Int) + -52 - 52 + 0 + 52)).toNat : Nat) : Int) = (m : Int)
        rw [show ((m.log2 : Int) + -52 - 52 + 0 + 52).toNat = 0 by omega, show (-((m.log2 : Int) + -52 - 52 + 0 + 52)).toNat = 52 - m.log2 by omega, Nat.pow_zero, Nat.mul_one, Nat.mul_div_cancel _ (Nat.two_pow_pos _)]
      show Int64.ofInt (max (-2 ^ 63) (min (2 ^ 63 - 1) (FP.Core.truncate false (m * 2 ^ (52 - m.log2)) ((m.log2 : Int) + -52 - 52 + 0 + 52)))) = _
      rw [e1]
      have e2 : max (-2 ^ 63 : Int) (min (2 ^ 63 - 1) (m : Int)) = (m : Int) := by omega
      rw [e2]
    have g1 : FP.Core.encode FP.Core.b64 (.fin false (m * 2 ^ (52 - m.log2)) ((m.log2 : Int) + -52 - 52)) = bqw (m * 2 ^ (52 - m.log2)) ((m.log2 : Int) + -52 - 52 + 1075).toNat := bq_enc hn.1 (by omega)
    have g2 : FP.Core.encode FP.Core.b64 (.fin false (m * 2 ^ (52 - m.log2)) ((m.log2 : Int) + -52 - 52 + 0 + 52)) = bqw (m * 2 ^ (52 - m.log2)) ((m.log2 : Int) + -52 - 52 + 0 + 52 + 1075).toNat := bq_enc hn.1 (by omega)
    rw [ed]
    rw [show bw_num (UInt64.ofNat (FP.Core.encode FP.Core.b64 (.fin false (m * 2 ^ (52 - m.log2)) ((m.log2 : Int) + -52 - 52)))) = bw_num (α := Int64) (UInt64.ofNat (bqw (m * 2 ^ (52 - m.log2)) ((m.log2 : Int) + -52 - 52 + 1075).toNat)) by rw [g1], bq_num hn.2 (by omega), bw_let_s, hq]
    rw [show bw_num (UInt64.ofNat (FP.Core.encode FP.Core.b64 (.fin false (m * 2 ^ (52 - m.log2)) ((m.log2 : Int) + -52 - 52 + 0 + 52)))) = bw_num (α := Int64) (UInt64.ofNat (bqw (m * 2 ^ (52 - m.log2)) ((m.log2 : Int) + -52 - 52 + 0 + 52 + 1075).toNat)) by rw [g2], bq_num hn.2 (by omega), bw_let_s, hl, show c - 4503599627370496 = m by omega]
theorem bq_loop {c : Nat} (h1 : 4503599627370496 ≤ c) (h2 : c < 9007199254740992) (y : Int) : ∀ (k n E : Nat) (j : Int), E + k = 1023 → 800 ≤ E → k < n → 0 ≤ j → j + k ≤ 1000 → lX5_bitsOfShare_18 n (UInt64.ofNat (bqw c E)) (Int64.ofInt (y + (k : Int))) (iv j) = jX5_bitsOfShare_50 (UInt64.ofNat (bqw c 1023)) (Int64.ofInt y) := by
  intro k
  induction k with
  | zero =>
    intro n E j hE h3 hn hj hk
    obtain ⟨n, rfl⟩ : ∃ n', n = n' + 1 := ⟨n - 1, by omega⟩
    have hE : E = 1023 := by omega
    subst hE
    show bX5_bitsOfShare_18 (lX5_bitsOfShare_18 n) (UInt64.ofNat (bqw c 1023)) (Int64.ofInt (y + ((0 : Nat) : Int))) (iv j) = _
    unfold bX5_bitsOfShare_18
    rw [show (1022 : Int32) = iv 1022 from rfl, ite_le (r32i (by omega) (by omega)) (r32i (by omega) (by omega)), if_neg (by omega), if_pos (bq_ge1 h1 h2), show y + ((0 : Nat) : Int) = y by omega]
  | succ k ih =>
    intro n E j hE h3 hn hj hk
    obtain ⟨n, rfl⟩ : ∃ n', n = n' + 1 := ⟨n - 1, by omega⟩
    show bX5_bitsOfShare_18 (lX5_bitsOfShare_18 n) (UInt64.ofNat (bqw c E)) (Int64.ofInt (y + ((k + 1 : Nat) : Int))) (iv j) = _
    unfold bX5_bitsOfShare_18
    have hlt : ¬0 ≤ Op.cmpValue (FP.dcmp (UInt64.ofNat (bqw c E)) FP.dconst1) CmpOp.g := by
      rw [bq_lt1 h1 h2 (by omega) (by omega)]
      decide
    rw [show (1022 : Int32) = iv 1022 from rfl, ite_le (r32i (by omega) (by omega)) (r32i (by omega) (by omega)), if_neg (by omega), if_neg hlt, bw_let_s, bq_dbl h1 h2 h3 (by omega), bq_num h2 (by omega), bw_let_s, bw_let_s]
    have e1 : Int64.ofInt (y + ((k + 1 : Nat) : Int)) - 1 = Int64.ofInt (y + (k : Int)) := by
      rw [show (1 : Int64) = Int64.ofInt 1 from rfl, ← Int64.ofInt_sub, show y + ((k + 1 : Nat) : Int) - 1 = y + (k : Int) by omega]
    have e2 : iv j + 1 = iv (j + 1) := by rw [show (1 : Int32) = iv 1 from rfl, iv_add]
    rw [e1, e2]
    exact ih n (E + 1) (j + 1) (by omega) (by omega) (by omega) (by omega) (by omega)
theorem bq_bits {c E : Nat} (h1 : 4503599627370496 ≤ c) (h2 : c < 9007199254740992) (h3 : 800 ≤ E) (h4 : E ≤ 1023) : fX5_bitsOfShare (UInt64.ofNat (bqw c E)) = some (UInt64.toInt64 (UInt64.ofNat (bqw c E))) := by
  unfold fX5_bitsOfShare
  rw [if_pos (bq_gt0 h1 h2 (by omega) h4)]
  have e := bq_loop h1 h2 (E : Int) (1023 - E) bw_fu E 0 (by omega) h3 (by show 1023 - E < 5000; omega) (by omega) (by omega)
  rw [show (E : Int) + ((1023 - E : Nat) : Int) = 1023 by omega] at e
  rw [show (1023 : Int64) = Int64.ofInt 1023 from rfl, show (0 : Int32) = iv 0 from rfl, e, bq_end h1 h2, bq_or h1 h2 h4]
theorem bq_jdk {w : UInt64} (h : Op.cmpValue (FP.dcmp w w) CmpOp.l = 0) : fJxe99ae_doubleToLongBits_ccdee w = some (UInt64.toInt64 w) := by
  unfold fJxe99ae_doubleToLongBits_ccdee fJxe99ae_isNaN_b9ae7
  rw [if_pos h, bw_b1_s, if_pos rfl]
