/- needs: 10_base 11_kit 12_refw 13_refs -/
/-! ===== the reference: what a project can lend, loans cut, dropped and added ===== -/
/-- what a project can lend -/
def bcl (s : bSt) (k : Nat) : Int := if s.2.1 k 7 = 1 ∧ 0 < s.2.2.1 k - s.2.1 k 1 * s.2.2.2.2.1 1 / 100 then s.2.2.1 k - s.2.1 k 1 * s.2.2.2.2.1 1 / 100 else 0
/-- the weight of a lender -/
def bme (s : bSt) (k : Nat) : Int := if s.2.2.2.2.1 0 = 0 then s.2.1 k 0 else if s.2.2.2.2.1 0 = 1 then bcl s k else -blent k s.2.2.2.1
/-- small numbers that the looks need -/
abbrev bSm (s : bSt) : Prop := (bLok s) ∧ (∀ k, k < s.1 → s.2.1 k 7 = 0 ∨ s.2.1 k 7 = 1) ∧ (∀ k, k < s.1 → 1 ≤ s.2.1 k 0 ∧ s.2.1 k 0 ≤ 9) ∧ (∀ k, k < s.1 → 0 ≤ s.2.1 k 1 ∧ s.2.1 k 1 ≤ 99) ∧ (∀ k, k < s.1 → 0 ≤ s.2.2.1 k ∧ s.2.2.1 k ≤ 1000000) ∧ (0 ≤ s.2.2.2.2.1 0 ∧ s.2.2.2.2.1 0 ≤ 2) ∧ (0 ≤ s.2.2.2.2.1 1 ∧ s.2.2.2.2.1 1 ≤ 100)
theorem bSm.lok {s : bSt} (h__ : bSm s) : bLok s := h__.1
theorem bSm.op {s : bSt} (h__ : bSm s) : ∀ k, k < s.1 → s.2.1 k 7 = 0 ∨ s.2.1 k 7 = 1 := h__.2.1
theorem bSm.rk {s : bSt} (h__ : bSm s) : ∀ k, k < s.1 → 1 ≤ s.2.1 k 0 ∧ s.2.1 k 0 ≤ 9 := h__.2.2.1
theorem bSm.bf {s : bSt} (h__ : bSm s) : ∀ k, k < s.1 → 0 ≤ s.2.1 k 1 ∧ s.2.1 k 1 ≤ 99 := h__.2.2.2.1
theorem bSm.lf {s : bSt} (h__ : bSm s) : ∀ k, k < s.1 → 0 ≤ s.2.2.1 k ∧ s.2.2.1 k ≤ 1000000 := h__.2.2.2.2.1
theorem bSm.s0 {s : bSt} (h__ : bSm s) : 0 ≤ s.2.2.2.2.1 0 ∧ s.2.2.2.2.1 0 ≤ 2 := h__.2.2.2.2.2.1
theorem bSm.s1 {s : bSt} (h__ : bSm s) : 0 ≤ s.2.2.2.2.1 1 ∧ s.2.2.2.2.1 1 ≤ 100 := h__.2.2.2.2.2.2
theorem bkept {x y : Int} (hx : 0 ≤ x ∧ x ≤ 99) (hy : 0 ≤ y ∧ y ≤ 100) : 0 ≤ x * y ∧ x * y ≤ 9900 := by
  constructor
  · exact Int.mul_nonneg hx.1 hy.1
  · calc x * y ≤ 99 * y := Int.mul_le_mul_of_nonneg_right hx.2 hy.1
      _ ≤ 99 * 100 := Int.mul_le_mul_of_nonneg_left hy.2 (by omega)
theorem bcl_r {s : bSt} (hm : bSm s) {k : Nat} (hk : k < s.1) : 0 ≤ bcl s k ∧ bcl s k ≤ 1000000 := by
  have h1 := bkept (hm.bf k hk) hm.s1
  have h2 := hm.lf k hk
  unfold bcl
  split <;> omega
section
variable {z : Nat → Int32} {s : bSt}
theorem f_canLend (h : bRZ z s) (hm : bSm s) {k : Nat} (hk : k < s.1) : fX6_canLend z (iv k) = some (iv (bcl s k)) := by
  have h1 := bkept (hm.bf k hk) hm.s1
  have h2 := hm.lf k hk
  unfold fX6_canLend jX6_canLend_49
  rw [f_at, bw_b1_s, h.rF hk, bw_b1_s, h.rP hk 1 (by omega) (by omega), bw_b1_s, h.rS1, bw_b1_s, bw_let_s, f_isOpen h hk (hm.op k hk), bw_b1_s, ite_10]
  simp only [iv_cast, iv_mul]
  rw [iv_div h1.1 (by omega) (by omega) (by omega), iv_sub, ite_le (r32i (by omega) (by omega)) (r32i (by omega) (by omega))]
  unfold bcl
  by_cases c : s.2.1 k 7 = 1
  · rw [if_pos c]
    by_cases d : s.2.2.1 k - s.2.1 k 1 * s.2.2.2.2.1 1 / 100 ≤ 0
    · rw [if_pos d, if_neg (by omega)]
    · rw [if_neg d, if_pos ⟨c, by omega⟩]
  · rw [if_neg c, if_neg (fun x => c x.1)]
theorem f_merit (h : bRZ z s) (hm : bSm s) {k : Nat} (hk : k < s.1) : fX6_merit z (iv k) = some (iv (bme s k)) := by
  have h6 := h.n6
  have hs0 := hm.s0
  unfold fX6_merit
  rw [h.rS0, bw_b1_s, bw_b1_s, f_at, bw_b1_s, h.rK hk, bw_b1_s, f_canLend h hm hk, bw_b1_s, f_lentBy h hm.lok (by omega), bw_b1_s]
  simp only [iv_cast, iv_neg]
  rw [ite_iv (r32i (by omega) (by omega)) (r32i (by omega) (by omega)), ite_iv (r32i (by omega) (by omega)) (r32i (by omega) (by omega))]
  unfold bme
  split
  · rfl
  · split <;> rfl
/-- the loop that moves the loans behind a place up -/
theorem l_drop (m : Nat) (hm : m ≤ 29) : ∀ (d n : Nat) (z : Nat → Int32) (i : Nat), z 1 = iv m → 354 ≤ i → i + d = 354 + 3 * m → d < n → ∃ z', lX6_dropLoan_15 n z (iv i) = some z' ∧ ∀ j, z' j = if i ≤ j ∧ j < 354 + 3 * m then z (j + 3) else z j := by
  intro d
  induction d with
  | zero =>
    intro n z i h1 h2 h3 h4
    cases n with
    | zero => omega
    | succ n =>
      refine ⟨z, ?_, fun j => by rw [if_neg (by omega)]⟩
      show bX6_dropLoan_15 (lX6_dropLoan_15 n) z (iv i) = _
      unfold bX6_dropLoan_15
      rw [show bw_rd 444 z 1 = some (z 1) from bZ_rd (i := 1) rfl (by omega), bw_b1_s, h1, f_loanAt, bw_b1_s]
      simp only [iv_cast, iv_mul, iv_add]
      rw [ite_le (r32i (by omega) (by omega)) (r32n (by omega)), if_pos (by omega)]
  | succ d ih =>
    intro n z i h1 h2 h3 h4
    cases n with
    | zero => omega
    | succ n =>
      obtain ⟨z', e1, e2⟩ := ih n (upd z i (z (i + 3))) (i + 1) (by rw [upd_ne _ _ (by omega)]; exact h1) (by omega) (by omega) (by omega)
      refine ⟨z', ?_, fun j => ?_⟩
      · show bX6_dropLoan_15 (lX6_dropLoan_15 n) z (iv i) = _
        unfold bX6_dropLoan_15
        rw [show bw_rd 444 z 1 = some (z 1) from bZ_rd (i := 1) rfl (by omega), bw_b1_s, h1, f_loanAt, bw_b1_s]
        have e3 : bw_rd 444 z (iv i + 3) = some (z (i + 3)) := by rw [iv_cast, iv_add]; exact bZ_rd (by omega) (by omega)
        have e4 : bw_wr 444 z (iv i) (z (i + 3)) = some (upd z i (z (i + 3))) := bZ_wr rfl (by omega)
        rw [e3, bw_b1_s, e4, bw_b1_s, bw_let_s, iv_succ, e1]
        simp only [iv_cast, iv_mul, iv_add]
        rw [ite_le (r32i (by omega) (by omega)) (r32n (by omega)), if_neg (by omega)]
      · rw [e2]
        by_cases c : i = j
        · subst c
          rw [if_neg (by omega), if_pos (by omega), upd_self]
        · by_cases c2 : i + 1 ≤ j ∧ j < 354 + 3 * m
          · rw [if_pos c2, if_pos (by omega), upd_ne _ _ (by omega)]
          · rw [if_neg c2, if_neg (by omega), upd_ne _ _ (by omega)]
theorem f_dropLoan (h : bRZ z s) {pre suf : List bLn} {e : bLn} (hL : s.2.2.2.1 = pre ++ e :: suf) : bOk (fX6_dropLoan z (iv pre.length)) fun z' => bRZ z' (s.1, s.2.1, s.2.2.1, pre ++ suf, s.2.2.2.2.1, s.2.2.2.2.2) := by
  have n6 := h.n6
  have h30 := h.l30' hL
  rw [List.length_cons] at h30
  have hlen : s.2.2.2.1.length = pre.length + suf.length + 1 := by rw [hL]; simp; omega
  obtain ⟨z', e1, e2⟩ := l_drop (pre.length + suf.length) (by omega) (3 * suf.length) bw_fu (upd z 1 (iv ((pre.length + suf.length : Nat) : Int))) (354 + 3 * pre.length) (upd_self _ _ _) (by omega) (by omega) (by unfold bw_fu; omega)
  refine ⟨z', ?_, ?_⟩
  · unfold fX6_dropLoan
    rw [h.r1x hL, bw_b1_s]
    simp only [iv_cast, iv_sub]
    rw [List.length_cons, show (((pre.length + (suf.length + 1) : Nat) : Int) - 1) = ((pre.length + suf.length : Nat) : Int) by omega]
    rw [show bw_wr 444 z (iv 1) (iv ((pre.length + suf.length : Nat) : Int)) = some (upd z 1 (iv ((pre.length + suf.length : Nat) : Int))) from bZ_wr (i := 1) rfl (by omega), bw_b1_s, f_loanAt, bw_b1_s]
    simp only [iv_cast, iv_mul, iv_add]
    rw [show (354 + 3 * (pre.length : Int)) = ((354 + 3 * pre.length : Nat) : Int) by omega]
    exact e1
  · have hget : ∀ (i : Nat) (hi : i < (pre ++ suf).length), (i < pre.length ∧ ∃ hi' : i < s.2.2.2.1.length, (pre ++ suf)[i] = s.2.2.2.1[i]) ∨ (pre.length ≤ i ∧ ∃ hi' : i + 1 < s.2.2.2.1.length, (pre ++ suf)[i] = s.2.2.2.1[i + 1]) := by
      intro i hi
      rw [List.length_append] at hi
      by_cases c : i < pre.length
      · left
        refine ⟨c, by omega, ?_⟩
        rw [List.getElem_append_left c]
        simp only [hL]
        rw [List.getElem_append_left c]
      · right
        refine ⟨by omega, by omega, ?_⟩
        rw [List.getElem_append_right (by omega)]
        simp only [hL]
        rw [List.getElem_append_right (by omega)]
        rw [List.getElem_cons, dif_neg (by omega)]
        congr 1
        omega
    refine ⟨h.n6, by rw [List.length_append]; omega, ?_, ?_, ?_, fun i hi => ?_, fun k' hk' => ?_, fun k' c' hk' hc' hc2' => ?_, fun i hi => ?_, fun i hi => ?_, fun i hi => ?_⟩ <;> dsimp only at *
    · rw [e2, if_neg (by omega), upd_ne _ _ (by omega)]; exact h.z0
    · rw [e2, if_neg (by omega), upd_self, List.length_append]
    · rw [e2, if_neg (by omega), upd_ne _ _ (by omega)]; exact h.z2
    · rw [e2, if_neg (by omega), upd_ne _ _ (by omega)]; exact h.zS i hi
    · rw [e2, if_neg (by omega), upd_ne _ _ (by omega)]; exact h.zF k' hk'
    · rw [e2, if_neg (by omega), upd_ne _ _ (by omega)]; exact h.zP k' c' hk' hc' hc2'
    · have hi2 := hi
      rw [List.length_append] at hi2
      rcases hget i hi with ⟨c, hi', e3⟩ | ⟨c, hi', e3⟩
      · rw [e2, if_neg (by omega), upd_ne _ _ (by omega), e3]; exact h.zA i hi'
      · rw [e2, if_pos (by omega), upd_ne _ _ (by omega), e3]; exact h.zA (i + 1) hi'
    · have hi2 := hi
      rw [List.length_append] at hi2
      rcases hget i hi with ⟨c, hi', e3⟩ | ⟨c, hi', e3⟩
      · rw [e2, if_neg (by omega), upd_ne _ _ (by omega), e3]; exact h.zB i hi'
      · rw [e2, if_pos (by omega), upd_ne _ _ (by omega), e3]; exact h.zB (i + 1) hi'
    · have hi2 := hi
      rw [List.length_append] at hi2
      rcases hget i hi with ⟨c, hi', e3⟩ | ⟨c, hi', e3⟩
      · rw [e2, if_neg (by omega), upd_ne _ _ (by omega), e3]; exact h.zD i hi'
      · rw [e2, if_pos (by omega), upd_ne _ _ (by omega), e3]; exact h.zD (i + 1) hi'
theorem bRZ.wDx (h : bRZ z s) {pre suf : List bLn} {e : bLn} (hL : s.2.2.2.1 = pre ++ e :: suf) (v : Int) : bOk (bw_wr 444 z (354 + 3 * iv pre.length + 2) (iv v)) fun z' => bRZ z' (s.1, s.2.1, s.2.2.1, pre ++ (e.1, e.2.1, v) :: suf, s.2.2.2.2.1, s.2.2.2.2.2) := by
  have hl : pre.length < s.2.2.2.1.length := by rw [hL]; simp
  have h1 := h.wD hl v
  have h2 : s.2.2.2.1.set pre.length (s.2.2.2.1[pre.length].1, s.2.2.2.1[pre.length].2.1, v) = pre ++ (e.1, e.2.1, v) :: suf := by
    simp [hL]
  rw [h2] at h1
  exact h1
theorem f_cutLoan (h : bRZ z s) {pre suf : List bLn} {e : bLn} (hL : s.2.2.2.1 = pre ++ e :: suf) {x : Int} (hx : r32 (e.2.2 - x)) : bOk (fX6_cutLoan z (iv pre.length) (iv x)) fun z' => bRZ z' (s.1, s.2.1, s.2.2.1, if e.2.2 - x = 0 then pre ++ suf else pre ++ (e.1, e.2.1, e.2.2 - x) :: suf, s.2.2.2.2.1, s.2.2.2.2.2) := by
  unfold fX6_cutLoan
  rw [f_loanAt, bw_b1_s, h.rDx hL, bw_b1_s, iv_sub]
  refine bOk_b1 (h.wDx hL (e.2.2 - x)) fun z1 h1 => ?_
  rw [bw_b1_s, h1.rDx (pre := pre) (suf := suf) rfl, bw_b1_s]
  rw [show (0 : Int32) = iv 0 from rfl, ite_iv hx (r32i (by omega) (by omega))]
  by_cases c : e.2.2 - x = 0
  · rw [if_pos c, if_pos c]
    exact bOk_b1 (f_dropLoan h1 (pre := pre) (suf := suf) rfl) fun z2 h2 => bOk_s h2
  · rw [if_neg c, if_neg c]
    exact bOk_s h1
/-- a loan grows, or is added -/
def badd (a b : Nat) (x : Int) : List bLn → List bLn
  | [] => [⟨a, b, x⟩]
  | e :: es => if e.1 = a ∧ e.2.1 = b then (e.1, e.2.1, e.2.2 + x) :: es else e :: badd a b x es
theorem badd_c (a b : Nat) (x : Int) (e : bLn) (es : List bLn) : badd a b x (e :: es) = if e.1 = a ∧ e.2.1 = b then (e.1, e.2.1, e.2.2 + x) :: es else e :: badd a b x es := rfl
theorem badd_none {a b : Nat} {x : Int} : ∀ {l : List bLn}, (∀ e ∈ l, ¬(e.1 = a ∧ e.2.1 = b)) → badd a b x l = l ++ [⟨a, b, x⟩] := by
  intro l
  induction l with
  | nil => intro _; rfl
  | cons e es ih =>
    intro hl
    rw [badd_c, if_neg (hl e List.mem_cons_self), ih fun y hy => hl y (List.mem_cons_of_mem _ hy)]
    rfl
theorem badd_some {a b : Nat} {x : Int} : ∀ {pre suf : List bLn} {e : bLn}, (∀ y ∈ pre, ¬(y.1 = a ∧ y.2.1 = b)) → e.1 = a → e.2.1 = b → badd a b x (pre ++ e :: suf) = pre ++ (e.1, e.2.1, e.2.2 + x) :: suf := by
  intro pre
  induction pre with
  | nil =>
    intro suf e _ h1 h2
    rw [List.nil_append, badd_c, if_pos ⟨h1, h2⟩]
    rfl
  | cons y ys ih =>
    intro suf e hl h1 h2
    rw [List.cons_append, badd_c, if_neg (hl y List.mem_cons_self), ih (fun y' hy => hl y' (List.mem_cons_of_mem _ hy)) h1 h2]
    rfl
/-- a new loan of no days behind the others -/
theorem bRZ.app (h : bRZ z s) {a b : Nat} (h29 : s.2.2.2.1.length < 30) : bRZ (upd (upd (upd (upd z (354 + 3 * s.2.2.2.1.length) (iv a)) (354 + 3 * s.2.2.2.1.length + 1) (iv b)) (354 + 3 * s.2.2.2.1.length + 2) (iv 0)) 1 (iv ((s.2.2.2.1.length + 1 : Nat) : Int))) (s.1, s.2.1, s.2.2.1, s.2.2.2.1 ++ [⟨a, b, 0⟩], s.2.2.2.2.1, s.2.2.2.2.2) := by
  have n6 := h.n6
  refine ⟨h.n6, by simp; omega, ?_, ?_, ?_, fun i hi => ?_, fun k' hk' => ?_, fun k' c' hk' hc' hc2' => ?_, fun i hi => ?_, fun i hi => ?_, fun i hi => ?_⟩ <;> dsimp only at *
  · rw [upd_ne _ _ (by omega), upd_ne _ _ (by omega), upd_ne _ _ (by omega), upd_ne _ _ (by omega)]; exact h.z0
  · rw [upd_self]; simp
  · rw [upd_ne _ _ (by omega), upd_ne _ _ (by omega), upd_ne _ _ (by omega), upd_ne _ _ (by omega)]; exact h.z2
  · rw [upd_ne _ _ (by omega), upd_ne _ _ (by omega), upd_ne _ _ (by omega), upd_ne _ _ (by omega)]; exact h.zS i hi
  · rw [upd_ne _ _ (by omega), upd_ne _ _ (by omega), upd_ne _ _ (by omega), upd_ne _ _ (by omega)]; exact h.zF k' hk'
  · rw [upd_ne _ _ (by omega), upd_ne _ _ (by omega), upd_ne _ _ (by omega), upd_ne _ _ (by omega)]; exact h.zP k' c' hk' hc' hc2'
  all_goals
    rw [List.length_append, List.length_singleton] at hi
    by_cases c : i < s.2.2.2.1.length
  · rw [upd_ne _ _ (by omega), upd_ne _ _ (by omega), upd_ne _ _ (by omega), upd_ne _ _ (by omega), List.getElem_append_left c]; exact h.zA i c
  · have c' : i = s.2.2.2.1.length := by omega
    subst c'
    rw [upd_ne _ _ (by omega), upd_ne _ _ (by omega), upd_ne _ _ (by omega), upd_self]; simp
  · rw [upd_ne _ _ (by omega), upd_ne _ _ (by omega), upd_ne _ _ (by omega), upd_ne _ _ (by omega), List.getElem_append_left c]; exact h.zB i c
  · have c' : i = s.2.2.2.1.length := by omega
    subst c'
    rw [upd_ne _ _ (by omega), upd_ne _ _ (by omega), upd_self]; simp
  · rw [upd_ne _ _ (by omega), upd_ne _ _ (by omega), upd_ne _ _ (by omega), upd_ne _ _ (by omega), List.getElem_append_left c]; exact h.zD i c
  · have c' : i = s.2.2.2.1.length := by omega
    subst c'
    rw [upd_ne _ _ (by omega), upd_self]; simp
theorem f_addLoan (h : bRZ z s) (hl : bLok s) {a b : Nat} (ha : a < 6) (hb : b < 6) (h29 : (∀ e ∈ s.2.2.2.1, ¬(e.1 = a ∧ e.2.1 = b)) → s.2.2.2.1.length < 30) (x : Int) : bOk (fX6_addLoan z (iv a) (iv b) (iv x)) fun z' => bRZ z' (s.1, s.2.1, s.2.2.1, badd a b x s.2.2.2.1, s.2.2.2.2.1, s.2.2.2.2.2) := by
  have h30 := h.l30
  have hr : -1 ≤ bpos a b s.2.2.2.1 0 ∧ bpos a b s.2.2.2.1 0 < (0 : Int) + s.2.2.2.1.length := @bpos_range a b s.2.2.2.1 0
  unfold fX6_addLoan jX6_addLoan_69
  rw [f_placeOf h hl ha hb, bw_b1_s]
  rw [show (-1 : Int32) = iv (-1) from rfl, ite_iv (r32i (by omega) (by omega)) (r32i (by omega) (by omega))]
  by_cases c : bpos a b s.2.2.2.1 0 = -1
  · rw [if_pos c]
    have hn := (bpos_none c (by omega)).2
    have h29' := h29 hn
    rw [badd_none hn]
    have ha := h.app (a := a) (b := b) h29'
    rw [h.r1, bw_b1_s, f_loanAt, bw_b1_s]
    rw [show bw_wr 444 z (354 + 3 * iv s.2.2.2.1.length) (iv a) = some (upd z (354 + 3 * s.2.2.2.1.length) (iv a)) by simp only [iv_cast, iv_mul, iv_add]; exact bZ_wr (by omega) (by omega), bw_b1_s, bw_b1_s]
    rw [show ∀ z', bw_wr 444 z' (354 + 3 * iv s.2.2.2.1.length + 1) (iv b) = some (upd z' (354 + 3 * s.2.2.2.1.length + 1) (iv b)) by intro z'; simp only [iv_cast, iv_mul, iv_add]; exact bZ_wr (by omega) (by omega), bw_b1_s, bw_b1_s]
    rw [show ∀ z', bw_wr 444 z' (354 + 3 * iv s.2.2.2.1.length + 2) 0 = some (upd z' (354 + 3 * s.2.2.2.1.length + 2) (iv 0)) by intro z'; simp only [iv_cast, iv_mul, iv_add]; exact bZ_wr (by omega) (by omega), bw_b1_s]
    rw [show ∀ z', bw_rd 444 z' 1 = some (z' 1) from fun z' => bZ_rd (i := 1) rfl (by omega), bw_b1_s]
    rw [upd_ne _ _ (by omega), upd_ne _ _ (by omega), upd_ne _ _ (by omega), h.z1, iv_succ]
    rw [show ∀ z', bw_wr 444 z' 1 (iv ((s.2.2.2.1.length + 1 : Nat) : Int)) = some (upd z' 1 (iv ((s.2.2.2.1.length + 1 : Nat) : Int))) from fun z' => bZ_wr (i := 1) rfl (by omega), bw_b1_s, bw_b1_s]
    rw [ha.rDx (pre := s.2.2.2.1) (suf := []) (e := ⟨a, b, 0⟩) rfl, bw_b1_s, iv_add]
    refine bOk_b1 (ha.wDx (pre := s.2.2.2.1) (suf := []) (e := ⟨a, b, 0⟩) rfl (0 + x)) fun z2 h2 => bOk_s ?_
    rw [Int.zero_add] at h2
    exact h2
  · rw [if_neg c]
    obtain ⟨pre, e, suf, h3, h4, h5, h6, h7, h8⟩ := bpos_some (i := 0) c
    have h4' : bpos a b s.2.2.2.1 0 = (pre.length : Int) := by rw [Nat.zero_add] at h4; exact h4
    rw [h4', f_loanAt, bw_b1_s, h.rDx h3, bw_b1_s, iv_add]
    refine bOk_b1 (h.wDx h3 (e.2.2 + x)) fun z2 h2 => bOk_s ?_
    rw [h3, badd_some h8 h5 h6]
    exact h2
end
