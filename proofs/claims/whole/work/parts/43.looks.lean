/- needs: 10_base 11_kit 12_refw 13_refs 14_refl 15_pay 16_order 17_charge 18_donow 19_donow2 20_tab 21_xpay 22_xqueue 23_xborrow 24_xdo 25_xdo2 30_refops 31_xops 32_saved 33_inv 34_inv2 40_ops 41_ops2 42_ops3 -/
/-! ===== looks ===== -/
section
variable {s : bSt} {f b : Int} {d : Nat → Nat → Int32} {z : Nat → Int32}
/-- a project's property -/
def bpr (s : bSt) (k c : Nat) : Int := if c = 14 then bcl s k else bT (bTP s.2.1) s.2.2.1 s.2.2.2.1 k c
theorem bIn.sm (h : bIn s f b) (hf : f ≤ 1000000) : bSm s := h.m.sm hf
theorem l_planned (h : bRZ z s) {k : Nat} (hk : k < s.1) (h5 : 0 ≤ s.2.1 k 5 ∧ s.2.1 k 5 ≤ 8) : ∀ (e n t : Nat) (x : Int), (t + e : Int) = s.2.1 k 5 → e < n → x = bsP s.2.1 k 10 t → lX6_planned_4 z (iv k) n (iv x) (iv t) = some (iv (bsP s.2.1 k 10 (s.2.1 k 5).toNat)) := by
  intro e
  induction e with
  | zero =>
    intro n t x ht hn hx
    cases n with
    | zero => omega
    | succ n =>
      show bX6_planned_4 (lX6_planned_4 z (iv k) n) z (iv k) (iv x) (iv t) = _
      unfold bX6_planned_4
      rw [f_at, bw_b1_s, h.rP hk 5 (by omega) (by omega), bw_b1_s, ite_le (r32i (by omega) (by omega)) (r32n (by omega)), if_pos (by omega), hx, show (s.2.1 k 5).toNat = t by omega]
  | succ e ih =>
    intro n t x ht hn hx
    cases n with
    | zero => omega
    | succ n =>
      show bX6_planned_4 (lX6_planned_4 z (iv k) n) z (iv k) (iv x) (iv t) = _
      unfold bX6_planned_4
      rw [f_at, bw_b1_s, h.rP hk 5 (by omega) (by omega), bw_b1_s, ite_le (r32i (by omega) (by omega)) (r32n (by omega)), if_neg (by omega), bw_b1_s, h.rT hk 10 (by omega) (by omega), bw_b1_s, bw_let_s, bw_let_s, iv_add, iv_succ]
      exact ih n (t + 1) _ (by omega) (by omega) (by rw [hx]; rfl)
theorem l_spent (h : bRZ z s) {k : Nat} (hk : k < s.1) (h5 : 0 ≤ s.2.1 k 6 ∧ s.2.1 k 6 ≤ 8) : ∀ (e n t : Nat) (x : Int), (t + e : Int) = s.2.1 k 6 → e < n → x = bsP s.2.1 k 18 t → lX6_spent_4 z (iv k) n (iv x) (iv t) = some (iv (bsP s.2.1 k 18 (s.2.1 k 6).toNat)) := by
  intro e
  induction e with
  | zero =>
    intro n t x ht hn hx
    cases n with
    | zero => omega
    | succ n =>
      show bX6_spent_4 (lX6_spent_4 z (iv k) n) z (iv k) (iv x) (iv t) = _
      unfold bX6_spent_4
      rw [f_at, bw_b1_s, h.rP hk 6 (by omega) (by omega), bw_b1_s, ite_le (r32i (by omega) (by omega)) (r32n (by omega)), if_pos (by omega), hx, show (s.2.1 k 6).toNat = t by omega]
  | succ e ih =>
    intro n t x ht hn hx
    cases n with
    | zero => omega
    | succ n =>
      show bX6_spent_4 (lX6_spent_4 z (iv k) n) z (iv k) (iv x) (iv t) = _
      unfold bX6_spent_4
      rw [f_at, bw_b1_s, h.rP hk 6 (by omega) (by omega), bw_b1_s, ite_le (r32i (by omega) (by omega)) (r32n (by omega)), if_neg (by omega), bw_b1_s, h.rT hk 18 (by omega) (by omega), bw_b1_s, bw_let_s, bw_let_s, iv_add, iv_succ]
      exact ih n (t + 1) _ (by omega) (by omega) (by rw [hx]; rfl)
theorem f_projectOf (h : bRZ z s) (hi : bIn s f b) (hf : f ≤ 310000) {k : Nat} (hk : k < s.1) {c : Nat} (hc : c < 15) : fX6_projectOf z (iv k) (iv c) = some (iv (bpr s k c)) := by
  have h6 := h.n6
  have hmn := hi.mn k hk
  have hl := hi.m.w.lok
  have hpl : fX6_planned z (iv k) = some (iv (bsP s.2.1 k 10 (s.2.1 k 5).toNat)) := l_planned h hk (by omega) (s.2.1 k 5).toNat bw_fu 0 0 (by omega) (by unfold bw_fu; omega) rfl
  have hsp : fX6_spent z (iv k) = some (iv (bsP s.2.1 k 18 (s.2.1 k 6).toNat)) := l_spent h hk (by omega) (s.2.1 k 6).toNat bw_fu 0 0 (by omega) (by unfold bw_fu; omega) rfl
  unfold fX6_projectOf jX6_projectOf_76
  have hc2 : c = 0 ∨ c = 1 ∨ c = 2 ∨ c = 3 ∨ c = 4 ∨ c = 5 ∨ c = 6 ∨ c = 7 ∨ c = 8 ∨ c = 9 ∨ c = 10 ∨ c = 11 ∨ c = 12 ∨ c = 13 ∨ c = 14 := by omega
  rw [f_at, bw_b1_s]
  rcases hc2 with q | q | q | q | q | q | q | q | q | q | q | q | q | q | q <;> subst q
  · rw [if_pos (by decide), show (6 + 58 * iv (k : Int) + iv ((0 : Nat) : Int) : Int32) = 6 + 58 * iv (k : Int) + OfNat.ofNat 0 from rfl, h.rP hk 0 (by omega) (by omega), bw_b1_s]; rfl
  · rw [if_neg (by decide), if_pos (by decide), show (6 + 58 * iv (k : Int) + iv ((1 : Nat) : Int) : Int32) = 6 + 58 * iv (k : Int) + OfNat.ofNat 1 from rfl, h.rP hk 1 (by omega) (by omega), bw_b1_s]; rfl
  · rw [if_neg (by decide), if_neg (by decide), if_pos (by decide), show (6 + 58 * iv (k : Int) + iv ((2 : Nat) : Int) : Int32) = 6 + 58 * iv (k : Int) + 2 from rfl, h.rF hk, bw_b1_s]; rfl
  · rw [if_neg (by decide), if_neg (by decide), if_neg (by decide), if_pos (by decide), show (6 + 58 * iv (k : Int) + iv ((3 : Nat) : Int) : Int32) = 6 + 58 * iv (k : Int) + OfNat.ofNat 3 from rfl, h.rP hk 3 (by omega) (by omega), bw_b1_s]; rfl
  · rw [if_neg (by decide), if_neg (by decide), if_neg (by decide), if_neg (by decide), if_pos (by decide), f_owedBy h hl (by omega), bw_b1_s]; rfl
  · rw [if_neg (by decide), if_neg (by decide), if_neg (by decide), if_neg (by decide), if_neg (by decide), if_pos (by decide), f_lentBy h hl (by omega), bw_b1_s]; rfl
  · rw [if_neg (by decide), if_neg (by decide), if_neg (by decide), if_neg (by decide), if_neg (by decide), if_neg (by decide), if_pos (by decide), h.rP hk 4 (by omega) (by omega), bw_b1_s]; rfl
  · rw [if_neg (by decide), if_neg (by decide), if_neg (by decide), if_neg (by decide), if_neg (by decide), if_neg (by decide), if_neg (by decide), if_pos (by decide), h.rP hk 5 (by omega) (by omega), bw_b1_s]; rfl
  · rw [if_neg (by decide), if_neg (by decide), if_neg (by decide), if_neg (by decide), if_neg (by decide), if_neg (by decide), if_neg (by decide), if_neg (by decide), if_pos (by decide), h.rP hk 6 (by omega) (by omega), bw_b1_s]; rfl
  · rw [if_neg (by decide), if_neg (by decide), if_neg (by decide), if_neg (by decide), if_neg (by decide), if_neg (by decide), if_neg (by decide), if_neg (by decide), if_neg (by decide), if_pos (by decide), h.rP hk 7 (by omega) (by omega), bw_b1_s]; rfl
  · rw [if_neg (by decide), if_neg (by decide), if_neg (by decide), if_neg (by decide), if_neg (by decide), if_neg (by decide), if_neg (by decide), if_neg (by decide), if_neg (by decide), if_neg (by decide), if_pos (by decide), h.rP hk 8 (by omega) (by omega), bw_b1_s]; rfl
  · rw [if_neg (by decide), if_neg (by decide), if_neg (by decide), if_neg (by decide), if_neg (by decide), if_neg (by decide), if_neg (by decide), if_neg (by decide), if_neg (by decide), if_neg (by decide), if_neg (by decide), if_pos (by decide), h.rP hk 9 (by omega) (by omega), bw_b1_s]; rfl
  · rw [if_neg (by decide), if_neg (by decide), if_neg (by decide), if_neg (by decide), if_neg (by decide), if_neg (by decide), if_neg (by decide), if_neg (by decide), if_neg (by decide), if_neg (by decide), if_neg (by decide), if_neg (by decide), if_pos (by decide), hpl, bw_b1_s]; rfl
  · rw [if_neg (by decide), if_neg (by decide), if_neg (by decide), if_neg (by decide), if_neg (by decide), if_neg (by decide), if_neg (by decide), if_neg (by decide), if_neg (by decide), if_neg (by decide), if_neg (by decide), if_neg (by decide), if_neg (by decide), if_pos (by decide), hsp, bw_b1_s]; rfl
  · rw [if_neg (by decide), if_neg (by decide), if_neg (by decide), if_neg (by decide), if_neg (by decide), if_neg (by decide), if_neg (by decide), if_neg (by decide), if_neg (by decide), if_neg (by decide), if_neg (by decide), if_neg (by decide), if_neg (by decide), if_neg (by decide), f_canLend h (hi.sm (by omega)) hk, bw_b1_s]; rfl
theorem x_projectPart (h : bRD d s) (hi : bIn s f b) (hf : f ≤ 310000) {k : Nat} (hk : k < s.1) {c : Nat} (hc : c < 15) : fX0_projectPart (d 0) (d 3) (iv k) (iv c) = some (iv (bpr s k c)) := by
  have hX : bRX (d 0) (d 1) (d 2) (d 3) (d 5 0) (d 5 1) s := h
  have h6 := hX.n6
  have hsm := hi.sm (by omega)
  unfold fX0_projectPart
  rw [show (14 : Int32) = iv 14 from rfl, ite_iv (r32n (by omega)) (r32i (by omega) (by omega))]
  unfold bpr
  by_cases q : c = 14
  · rw [if_pos (by omega), if_pos q, x_isOpen hX.xs (by omega) (hi.m.op k hk), bw_b1_s, ite_10]
    by_cases o : s.2.1 k 7 = 1
    · rw [if_pos o, show fX0_lendableDays (d 0) (d 3) (iv k) 0 = some (iv (max 0 (s.2.2.1 k - 0 - s.2.1 k 1 * s.2.2.2.2.1 1 / 100))) from x_lendable hX.xs hsm h6 hk (less := 0) (by omega), bw_b1_s, bcl_open o]
    · rw [if_neg o]
      unfold bcl
      rw [if_neg fun x => o x.1]
      rfl
  · rw [if_neg (by omega), if_neg q, show fX3_get 84 (iv 14) (d 0) (iv k) (iv c) = some (iv (bT (bTP s.2.1) s.2.2.1 s.2.2.2.1 k c)) from hX.x.t.gv (by omega) (by omega), bw_b1_s]
theorem f_taskOf (h : bRZ z s) {k t c : Nat} (hk : k < s.1) (ht : t < 8) (hc : c < 6) : fX6_taskOf z (iv k) (iv t) (iv c) = some (iv (s.2.1 k (bkc t c))) := by
  have h6 := h.n6
  unfold fX6_taskOf
  rw [f_at, bw_b1_s, show (2 : Int32) = iv 2 from rfl, show (0 : Int32) = iv 0 from rfl, ite_le (r32i (by omega) (by omega)) (r32n (by omega)), ite_iv (r32n (by omega)) (r32i (by omega) (by omega))]
  unfold bkc
  by_cases c2 : (2 : Int) ≤ c
  · rw [if_pos c2, if_neg (by omega), if_neg (by omega)]
    have := h.zP k (26 + 4 * t + (c - 2)) hk (by omega) (by omega)
    rw [← this]
    simp only [iv_cast, iv_add, iv_mul, iv_sub]
    rw [bZ_rd (i := 6 + 58 * k + (26 + 4 * t + (c - 2))) (by omega) (by omega), bw_b1_s]
  · rw [if_neg c2]
    by_cases c0 : c = 0
    · rw [if_pos (by omega), if_pos c0, h.rT hk 10 (by omega) (by omega), bw_b1_s]
    · rw [if_neg (by omega), if_neg c0, if_pos (by omega), h.rT hk 18 (by omega) (by omega), bw_b1_s]
theorem x_taskPart (h : bRD d s) {k t c : Nat} (hk : k < s.1) (ht : t < 8) (hc : c < 6) : fX0_taskPart (d 1) (iv k) (iv t) (iv c) = some (iv (s.2.1 k (bkc t c))) := by
  have hX : bRX (d 0) (d 1) (d 2) (d 3) (d 5 0) (d 5 1) s := h
  have h6 := hX.n6
  unfold fX0_taskPart
  rw [x_row, bw_b1_s, hX.k.gv (by omega) ht hc, bw_b1_s]
/-! sums over the projects -/
def bsp (s : bSt) (c : Nat) : Nat → Int
  | 0 => 0
  | n + 1 => bsp s c n + bpr s n c
theorem l_ofP (h : bRZ z s) (hi : bIn s f b) (hf : f ≤ 310000) {c : Nat} (hc : c < 15) : ∀ (e n k : Nat) (x : Int), k + e = s.1 → e < n → x = bsp s c k → lX6_ofProjects_4 z (iv c) n (iv x) (iv k) = some (iv (bsp s c s.1)) := by
  have h6 := h.n6
  intro e
  induction e with
  | zero =>
    intro n k x hk hn hx
    cases n with
    | zero => omega
    | succ n =>
      show bX6_ofProjects_4 (lX6_ofProjects_4 z (iv c) n) z (iv c) (iv x) (iv k) = _
      unfold bX6_ofProjects_4
      rw [h.r0, bw_b1_s, ite_le (r32n (by omega)) (r32n (by omega)), if_pos (by omega), hx, show k = s.1 by omega]
  | succ e ih =>
    intro n k x hk hn hx
    cases n with
    | zero => omega
    | succ n =>
      show bX6_ofProjects_4 (lX6_ofProjects_4 z (iv c) n) z (iv c) (iv x) (iv k) = _
      unfold bX6_ofProjects_4
      rw [h.r0, bw_b1_s, ite_le (r32n (by omega)) (r32n (by omega)), if_neg (by omega), f_projectOf h hi hf (by omega) hc, bw_b1_s, bw_let_s, bw_let_s, iv_add, iv_succ]
      exact ih n (k + 1) _ (by omega) (by omega) (by rw [hx]; rfl)
theorem f_ofProjects (h : bRZ z s) (hi : bIn s f b) (hf : f ≤ 310000) {c : Nat} (hc : c < 15) : fX6_ofProjects z (iv c) = some (iv (bsp s c s.1)) := l_ofP h hi hf hc s.1 bw_fu 0 0 (by omega) (by have := h.n6; unfold bw_fu; omega) rfl
theorem l_xsum (h : bRD d s) {c : Nat} (hc : c < 14) : ∀ (e n k : Nat) (x : Int), k + e = s.1 → e < n → x = bsp s c k → lX0_sumOfProjects_4 (d 0) (iv s.1) (iv c) n (iv x) (iv k) = some (iv (bsp s c s.1)) := by
  have hX : bRX (d 0) (d 1) (d 2) (d 3) (d 5 0) (d 5 1) s := h
  have h6 := hX.n6
  intro e
  induction e with
  | zero =>
    intro n k x hk hn hx
    cases n with
    | zero => omega
    | succ n =>
      show bX0_sumOfProjects_4 (lX0_sumOfProjects_4 (d 0) (iv s.1) (iv c) n) (d 0) (iv s.1) (iv c) (iv x) (iv k) = _
      unfold bX0_sumOfProjects_4
      rw [ite_le (r32n (by omega)) (r32n (by omega)), if_pos (by omega), hx, show k = s.1 by omega]
  | succ e ih =>
    intro n k x hk hn hx
    cases n with
    | zero => omega
    | succ n =>
      show bX0_sumOfProjects_4 (lX0_sumOfProjects_4 (d 0) (iv s.1) (iv c) n) (d 0) (iv s.1) (iv c) (iv x) (iv k) = _
      unfold bX0_sumOfProjects_4
      have e1 : bpr s k c = bT (bTP s.2.1) s.2.2.1 s.2.2.2.1 k c := if_neg (by omega)
      rw [ite_le (r32n (by omega)) (r32n (by omega)), if_neg (by omega), hX.x.t.gv (by omega) hc, bw_b1_s, bw_let_s, bw_let_s, iv_add, iv_succ, ← e1]
      exact ih n (k + 1) _ (by omega) (by omega) (by rw [hx]; rfl)
theorem x_sum (h : bRD d s) {c : Nat} (hc : c < 14) : fX0_sumOfProjects (d 0) (d 5 0) (iv c) = some (iv (bsp s c s.1)) := by
  have hX : bRX (d 0) (d 1) (d 2) (d 3) (d 5 0) (d 5 1) s := h
  have := l_xsum h hc s.1 bw_fu 0 0 (by omega) (by have := hX.n6; unfold bw_fu; omega) rfl
  rw [← hX.n] at this
  exact this
/-! the delays -/
def bdal (s : bSt) : Nat → Int
  | 0 => 0
  | n + 1 => bdal s n + bdl s.2.1 n (s.2.1 n 6).toNat
theorem l_del (h : bRZ z s) (hi : bIn s f b) {k : Nat} (hk : k < s.1) {k4 : Int32 → Int32 → Option Int32} : ∀ (e n t : Nat) (x : Int), (t + e : Int) = s.2.1 k 6 → e < n → lX6_delays_16 k4 z (iv k) n (iv x) (iv t) = k4 (iv (x + (bdl s.2.1 k (s.2.1 k 6).toNat - bdl s.2.1 k t))) (iv ((k + 1 : Nat) : Int)) := by
  have hmn := hi.mn k hk
  intro e
  induction e with
  | zero =>
    intro n t x ht hn
    cases n with
    | zero => omega
    | succ n =>
      show bX6_delays_16 k4 (lX6_delays_16 k4 z (iv k) n) z (iv k) (iv x) (iv t) = _
      unfold bX6_delays_16
      rw [f_at, bw_b1_s, h.rP hk 6 (by omega) (by omega), bw_b1_s, ite_le (r32i (by omega) (by omega)) (r32n (by omega)), if_pos (by omega), bw_let_s, iv_succ, show (s.2.1 k 6).toNat = t by omega, Int.sub_self, Int.add_zero]
  | succ e ih =>
    intro n t x ht hn
    cases n with
    | zero => omega
    | succ n =>
      have hp := hi.pl k hk t (by omega)
      have hd := hi.dy k hk t (by omega)
      show bX6_delays_16 k4 (lX6_delays_16 k4 z (iv k) n) z (iv k) (iv x) (iv t) = _
      unfold bX6_delays_16 jX6_delays_61
      rw [f_at, bw_b1_s, h.rP hk 6 (by omega) (by omega), bw_b1_s, ite_le (r32i (by omega) (by omega)) (r32n (by omega)), if_neg (by omega)]
      rw [show fX6_taskOf z (iv k) (iv t) 1 = some (iv (s.2.1 k (18 + t))) from f_taskOf h hk (c := 1) (by omega) (by omega), bw_b1_s, show fX6_taskOf z (iv k) (iv t) 0 = some (iv (s.2.1 k (10 + t))) from f_taskOf h hk (c := 0) (by omega) (by omega), bw_b1_s, bw_let_s, iv_sub]
      simp only [bw_let_s]
      rw [show (0 : Int32) = iv 0 from rfl, ite_le (r32i (by omega) (by omega)) (r32i (by omega) (by omega)), iv_add, iv_add, iv_succ, ih n (t + 1) _ (by omega) (by omega), ih n (t + 1) _ (by omega) (by omega)]
      have e1 : bdl s.2.1 k (t + 1) = bdl s.2.1 k t + max 0 (s.2.1 k (18 + t) - s.2.1 k (10 + t)) := rfl
      rw [e1]
      split
      · congr 2; omega
      · congr 2; omega
theorem l_dels (h : bRZ z s) (hi : bIn s f b) : ∀ (e n k : Nat), k + e = s.1 → e < n → lX6_delays_4 z n (iv (bdal s k)) (iv k) = some (iv (bdal s s.1)) := by
  have h6 := h.n6
  intro e
  induction e with
  | zero =>
    intro n k hk hn
    cases n with
    | zero => omega
    | succ n =>
      show bX6_delays_4 (lX6_delays_4 z n) z (iv (bdal s k)) (iv k) = _
      unfold bX6_delays_4
      rw [h.r0, bw_b1_s, ite_le (r32n (by omega)) (r32n (by omega)), if_pos (by omega), show k = s.1 by omega]
  | succ e ih =>
    intro n k hk hn
    cases n with
    | zero => omega
    | succ n =>
      have hmn := hi.mn k (by omega)
      show bX6_delays_4 (lX6_delays_4 z n) z (iv (bdal s k)) (iv k) = _
      unfold bX6_delays_4
      rw [h.r0, bw_b1_s, ite_le (r32n (by omega)) (r32n (by omega)), if_neg (by omega)]
      rw [show (0 : Int32) = iv ((0 : Nat) : Int) from rfl, l_del h hi (by omega) (s.2.1 k 6).toNat bw_fu 0 _ (by omega) (by unfold bw_fu; omega)]
      have := ih n (k + 1) (by omega) (by omega)
      have e1 : bdal s (k + 1) = bdal s k + bdl s.2.1 k (s.2.1 k 6).toNat := rfl
      rw [e1] at this
      have e2 : bdl s.2.1 k 0 = 0 := rfl
      rw [e2, Int.sub_zero]
      exact this
theorem f_delays (h : bRZ z s) (hi : bIn s f b) : fX6_delays z = some (iv (bdal s s.1)) := l_dels h hi s.1 bw_fu 0 (by omega) (by have := h.n6; unfold bw_fu; omega)
theorem l_xdel (h : bRD d s) (hi : bIn s f b) {k : Nat} (hk : k < s.1) {k4 : Int32 → Int32 → Option Int32} {np : Int32} : ∀ (e n t : Nat) (x : Int), (t + e : Int) = s.2.1 k 6 → e < n → lX0_delayOfTasks_14 k4 (d 0) (d 1) np (iv k) n (iv x) (iv t) = k4 (iv (x + (bdl s.2.1 k (s.2.1 k 6).toNat - bdl s.2.1 k t))) (iv ((k + 1 : Nat) : Int)) := by
  have hX : bRX (d 0) (d 1) (d 2) (d 3) (d 5 0) (d 5 1) s := h
  have h6 := hX.n6
  have hmn := hi.mn k hk
  have e8 : bT (bTP s.2.1) s.2.2.1 s.2.2.2.1 k 8 = s.2.1 k 6 := rfl
  intro e
  induction e with
  | zero =>
    intro n t x ht hn
    cases n with
    | zero => omega
    | succ n =>
      show bX0_delayOfTasks_14 k4 (lX0_delayOfTasks_14 k4 (d 0) (d 1) np (iv k) n) (d 0) (d 1) np (iv k) (iv x) (iv t) = _
      unfold bX0_delayOfTasks_14
      rw [hX.x.t.g (by omega) 8 (by omega), bw_b1_s, e8, ite_le (r32i (by omega) (by omega)) (r32n (by omega)), if_pos (by omega), bw_let_s, iv_succ, show (s.2.1 k 6).toNat = t by omega, Int.sub_self, Int.add_zero]
  | succ e ih =>
    intro n t x ht hn
    cases n with
    | zero => omega
    | succ n =>
      have hp := hi.pl k hk t (by omega)
      have hd := hi.dy k hk t (by omega)
      show bX0_delayOfTasks_14 k4 (lX0_delayOfTasks_14 k4 (d 0) (d 1) np (iv k) n) (d 0) (d 1) np (iv k) (iv x) (iv t) = _
      unfold bX0_delayOfTasks_14
      rw [hX.x.t.g (by omega) 8 (by omega), bw_b1_s, e8, ite_le (r32i (by omega) (by omega)) (r32n (by omega)), if_neg (by omega), x_row, bw_b1_s]
      rw [show fX3_get 288 6 (d 1) (iv ((8 * k + t : Nat) : Int)) 1 = some (iv (s.2.1 k (18 + t))) from hX.k.g (by omega) (by omega) 1 (by omega), bw_b1_s, show fX3_get 288 6 (d 1) (iv ((8 * k + t : Nat) : Int)) 0 = some (iv (s.2.1 k (10 + t))) from hX.k.g (by omega) (by omega) 0 (by omega), bw_b1_s, bw_let_s, bw_let_s, iv_sub, iv_max0 (r32i (by omega) (by omega)), iv_add, iv_succ, ih n (t + 1) _ (by omega) (by omega)]
      have e1 : bdl s.2.1 k (t + 1) = bdl s.2.1 k t + max 0 (s.2.1 k (18 + t) - s.2.1 k (10 + t)) := rfl
      rw [e1]
      congr 2
      omega
theorem l_xdels (h : bRD d s) (hi : bIn s f b) : ∀ (e n k : Nat), k + e = s.1 → e < n → lX0_delayOfTasks_4 (d 0) (d 1) (iv s.1) n (iv (bdal s k)) (iv k) = some (iv (bdal s s.1)) := by
  have hX : bRX (d 0) (d 1) (d 2) (d 3) (d 5 0) (d 5 1) s := h
  have h6 := hX.n6
  intro e
  induction e with
  | zero =>
    intro n k hk hn
    cases n with
    | zero => omega
    | succ n =>
      show bX0_delayOfTasks_4 (lX0_delayOfTasks_4 (d 0) (d 1) (iv s.1) n) (d 0) (d 1) (iv s.1) (iv (bdal s k)) (iv k) = _
      unfold bX0_delayOfTasks_4
      rw [ite_le (r32n (by omega)) (r32n (by omega)), if_pos (by omega), show k = s.1 by omega]
  | succ e ih =>
    intro n k hk hn
    cases n with
    | zero => omega
    | succ n =>
      have hmn := hi.mn k (by omega)
      show bX0_delayOfTasks_4 (lX0_delayOfTasks_4 (d 0) (d 1) (iv s.1) n) (d 0) (d 1) (iv s.1) (iv (bdal s k)) (iv k) = _
      unfold bX0_delayOfTasks_4
      rw [ite_le (r32n (by omega)) (r32n (by omega)), if_neg (by omega)]
      rw [show (0 : Int32) = iv ((0 : Nat) : Int) from rfl, l_xdel h hi (by omega) (s.2.1 k 6).toNat bw_fu 0 _ (by omega) (by unfold bw_fu; omega)]
      have := ih n (k + 1) (by omega) (by omega)
      have e1 : bdal s (k + 1) = bdal s k + bdl s.2.1 k (s.2.1 k 6).toNat := rfl
      rw [e1] at this
      have e2 : bdl s.2.1 k 0 = 0 := rfl
      rw [e2, Int.sub_zero]
      exact this
theorem x_delays (h : bRD d s) (hi : bIn s f b) : fX0_delayOfTasks (d 0) (d 1) (d 5 0) = some (iv (bdal s s.1)) := by
  have hX : bRX (d 0) (d 1) (d 2) (d 3) (d 5 0) (d 5 1) s := h
  have := l_xdels h hi s.1 bw_fu 0 (by omega) (by have := hX.n6; unfold bw_fu; omega)
  rw [← hX.n] at this
  exact this
end
