/- needs: 56.ops5 -/
/-! ===== the share of the days that are late, as a double ===== -/
def bshw (a b : Int) : UInt64 := FP.ddiv (FP.i2d (iv a)) (FP.i2d (iv b))
theorem bsh_0 : fX5_bitsOfShare FP.dconst0 = some 0 ∧ fJxe99ae_doubleToLongBits_ccdee FP.dconst0 = some 0 ∧ Op.cmpValue (FP.dcmp FP.dconst0 FP.dconst0) CmpOp.l = 0 := by
  refine ⟨by decide +kernel, by decide +kernel, by decide +kernel⟩
theorem bsh_num {a b : Int} (ha : 0 ≤ a ∧ a ≤ b) (hb : 0 < b ∧ b ≤ 100000) : bw_num (bshw a b) (some (bshw a b)) = some (bshw a b) := by
  by_cases h : a = 0
  · subst h
    rw [show bshw 0 b = 0 from bq_share0 hb.1 hb.2]
    exact bq_num0 _
  · obtain ⟨c, E, h1, h2, h3, h4, e⟩ := bq_share (a := a) (b := b) ⟨by omega, ha.2⟩ hb.2
    rw [show bshw a b = UInt64.ofNat (bqw c E) from e]
    exact bq_num h2 (by omega) _
theorem bsh_bits {a b : Int} (ha : 0 ≤ a ∧ a ≤ b) (hb : 0 < b ∧ b ≤ 100000) : fX5_bitsOfShare (bshw a b) = some (UInt64.toInt64 (bshw a b)) ∧ fJxe99ae_doubleToLongBits_ccdee (bshw a b) = some (UInt64.toInt64 (bshw a b)) ∧ Op.cmpValue (FP.dcmp (bshw a b) (bshw a b)) CmpOp.l = 0 := by
  by_cases h : a = 0
  · subst h
    rw [show bshw 0 b = FP.dconst0 from bq_share0 hb.1 hb.2]
    exact ⟨bsh_0.1, bsh_0.2.1, bsh_0.2.2⟩
  · obtain ⟨c, E, h1, h2, h3, h4, e⟩ := bq_share (a := a) (b := b) ⟨by omega, ha.2⟩ hb.2
    rw [show bshw a b = UInt64.ofNat (bqw c E) from e]
    exact ⟨bq_bits h1 h2 h3 h4, bq_jdk (bq_self h1 h2 (by omega) h4), bq_self h1 h2 (by omega) h4⟩
def bshr (s : bSt) : UInt64 := if bdal s s.1 = 0 then FP.dconst0 else bshw (bsp s 6 s.1) (bdal s s.1)
section
variable {s : bSt} {f b : Int} {d : Nat → Nat → Int32} {z : Nat → Int32}
theorem bdl_r (hi : bIn s f b) {k : Nat} (hk : k < s.1) : ∀ n : Nat, (n : Int) ≤ s.2.1 k 6 → 0 ≤ bdl s.2.1 k n ∧ bdl s.2.1 k n ≤ 300 * n := by
  have hmn := hi.mn k hk
  intro n
  induction n with
  | zero => intro _; exact ⟨Int.le_refl _, Int.le_refl _⟩
  | succ n ih =>
    intro hn
    have h1 := ih (by omega)
    have h2 := hi.dy k hk n (by omega)
    have h3 := hi.pl k hk n (by omega)
    show 0 ≤ bdl s.2.1 k n + max 0 (s.2.1 k (18 + n) - s.2.1 k (10 + n)) ∧ bdl s.2.1 k n + max 0 (s.2.1 k (18 + n) - s.2.1 k (10 + n)) ≤ 300 * ((n + 1 : Nat) : Int)
    omega
theorem bshr_r (hi : bIn s f b) : ∀ n, n ≤ s.1 → 0 ≤ bsp s 6 n ∧ bsp s 6 n ≤ bdal s n ∧ bdal s n ≤ 2400 * n := by
  intro n
  induction n with
  | zero => intro _; exact ⟨Int.le_refl _, Int.le_refl _, Int.le_refl _⟩
  | succ n ih =>
    intro hn
    have h1 := ih (by omega)
    have h2 := hi.lt n (by omega)
    have hmn := hi.mn n (by omega)
    have h3 := bdl_r hi (k := n) (by omega) (s.2.1 n 6).toNat (by omega)
    have e : bpr s n 6 = s.2.1 n 4 := rfl
    show 0 ≤ bsp s 6 n + bpr s n 6 ∧ bsp s 6 n + bpr s n 6 ≤ bdal s n + bdl s.2.1 n (s.2.1 n 6).toNat ∧ bdal s n + bdl s.2.1 n (s.2.1 n 6).toNat ≤ 2400 * ((n + 1 : Nat) : Int)
    rw [e]
    omega
theorem x_share (h : bDL s f b d z) : fX5_lateShare d = some (bshr s) := by
  have h6 := h.Z.n6
  have hr := bshr_r h.I s.1 (Nat.le_refl _)
  unfold fX5_lateShare bshr
  rw [x_delays h.1 h.I, bw_b1_s, show (0 : Int32) = iv 0 from rfl, ite_iv (r32i (by omega) (by omega)) (r32i (by omega) (by omega))]
  by_cases c : bdal s s.1 = 0
  · rw [if_pos c, if_pos c]
  · rw [if_neg c, if_neg c, show fX0_sumOfProjects (d 0) (d 5 0) 6 = some (iv (bsp s 6 s.1)) from x_sum h.1 (c := 6) (by omega), bw_b1_s, bw_let_s]
    exact bsh_num ⟨hr.1, hr.2.1⟩ (by omega)
theorem f_share (h : bDL s f b d z) : fX6_shareOf z = some (bshr s) := by
  have h6 := h.Z.n6
  have hr := bshr_r h.I s.1 (Nat.le_refl _)
  unfold fX6_shareOf bshr
  rw [f_delays h.Z h.I, bw_b1_s, show (0 : Int32) = iv 0 from rfl, ite_iv (r32i (by omega) (by omega)) (r32i (by omega) (by omega))]
  by_cases c : bdal s s.1 = 0
  · rw [if_pos c, if_pos c]
  · rw [if_neg c, if_neg c, show fX6_ofProjects z 6 = some (iv (bsp s 6 s.1)) from f_ofProjects h.Z h.I h.fl (c := 6) (by omega), bw_b1_s, bw_let_s]
    exact bsh_num ⟨hr.1, hr.2.1⟩ (by omega)
theorem bshr_bits (h : bDL s f b d z) : fX5_bitsOfShare (bshr s) = some (UInt64.toInt64 (bshr s)) ∧ fJxe99ae_doubleToLongBits_ccdee (bshr s) = some (UInt64.toInt64 (bshr s)) ∧ Op.cmpValue (FP.dcmp (bshr s) (bshr s)) CmpOp.l = 0 := by
  have h6 := h.Z.n6
  have hr := bshr_r h.I s.1 (Nat.le_refl _)
  unfold bshr
  split
  · exact ⟨bsh_0.1, bsh_0.2.1, bsh_0.2.2⟩
  · exact bsh_bits ⟨hr.1, hr.2.1⟩ (by omega)
end
