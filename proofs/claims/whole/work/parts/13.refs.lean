/- needs: 10_base 11_kit 12_refw -/
/-! ===== the reference's looks ===== -/
/-- the place of a loan, -1 if none -/
def bpos (a b : Nat) : List bLn → Int → Int
  | [], _ => -1
  | e :: es, i => if e.1 = a ∧ e.2.1 = b then i else bpos a b es (i + 1)
/-- the days of a loan, 0 if none -/
def bow (a b : Nat) : List bLn → Int
  | [] => 0
  | e :: es => if e.1 = a ∧ e.2.1 = b then e.2.2 else bow a b es
def blent (k : Nat) : List bLn → Int
  | [] => 0
  | e :: es => (if e.1 = k then e.2.2 else 0) + blent k es
def bowed (k : Nat) : List bLn → Int
  | [] => 0
  | e :: es => (if e.2.1 = k then e.2.2 else 0) + bowed k es
theorem blent_c (k : Nat) (e : bLn) (es : List bLn) : blent k (e :: es) = (if e.1 = k then e.2.2 else 0) + blent k es := rfl
theorem bowed_c (k : Nat) (e : bLn) (es : List bLn) : bowed k (e :: es) = (if e.2.1 = k then e.2.2 else 0) + bowed k es := rfl
theorem bow_c (a b : Nat) (e : bLn) (es : List bLn) : bow a b (e :: es) = if e.1 = a ∧ e.2.1 = b then e.2.2 else bow a b es := rfl
/-- loans between projects -/
abbrev bLok (s : bSt) : Prop := (∀ e ∈ s.2.2.2.1, e.1 < s.1 ∧ e.2.1 < s.1)
theorem bLok.ab {s : bSt} (h__ : bLok s) : ∀ e ∈ s.2.2.2.1, e.1 < s.1 ∧ e.2.1 < s.1 := h__
theorem r32n {n : Nat} (h : n < 100000) : r32 (n : Int) := ⟨by omega, by omega⟩
theorem r32i {n : Int} (h1 : -2000000000 ≤ n) (h : n ≤ 2000000000) : r32 n := ⟨by omega, by omega⟩
theorem iv_succ (i : Nat) : iv (i : Int) + 1 = iv ((i + 1 : Nat) : Int) := by rw [iv_cast, iv_add]; congr 1
theorem len_snoc' {α : Type} (pre : List α) (e : α) : (pre ++ [e]).length = pre.length + 1 := by simp
theorem f_at (p : Int32) : fX6_at p = some (6 + 58 * p) := rfl
theorem f_loanAt (p : Int32) : fX6_loanAt p = some (354 + 3 * p) := rfl
theorem f_least {a b : Int} (ha : r32 a) (hb : r32 b) : fX6_least (iv a) (iv b) = some (iv (min a b)) := by
  unfold fX6_least
  rw [ite_le hb ha]
  by_cases h : b ≤ a
  · rw [if_pos h, Int.min_eq_right h]
  · rw [if_neg h, Int.min_eq_left (by omega)]
theorem f_in {v l m : Int} (hv : r32 v) (hl : r32 l) (hm : r32 m) : fX6_in (iv v) (iv l) (iv m) = some (if l ≤ v ∧ v ≤ m then 1 else 0) := by
  unfold fX6_in jX6_in_14
  rw [ite_lt hv hl, ite_lt hm hv]
  by_cases h1 : v < l
  · rw [if_pos h1, if_neg (by omega)]
  · rw [if_neg h1]
    by_cases h2 : m < v
    · rw [if_pos h2, if_neg (by omega)]
    · rw [if_neg h2, if_pos (by omega)]
theorem bw_bool_if {α : Type} {c : Prop} [Decidable c] {r : Option α} : bw_bool (if c then 1 else 0) r = r := by
  unfold bw_bool
  by_cases h : c <;> simp [h]
theorem ite_10 {α : Type} {c : Prop} [Decidable c] {X Y : α} : (if (if c then (1 : Int32) else 0) = 0 then X else Y) = if c then Y else X := by
  by_cases h : c <;> simp [h]
section
variable {z : Nat → Int32} {s : bSt}
theorem bRZ.l30' (h : bRZ z s) {pre suf : List bLn} (hL : s.2.2.2.1 = pre ++ suf) : pre.length + suf.length ≤ 30 := by
  have := h.l30
  rw [hL, List.length_append] at this
  exact this
theorem bRZ.rAx (h : bRZ z s) {pre suf : List bLn} {e : bLn} (hL : s.2.2.2.1 = pre ++ e :: suf) : bw_rd 444 z (354 + 3 * iv pre.length) = some (iv e.1) := by
  have hl : pre.length < s.2.2.2.1.length := by rw [hL]; simp
  rw [h.rA hl]; simp [hL]
theorem bRZ.rBx (h : bRZ z s) {pre suf : List bLn} {e : bLn} (hL : s.2.2.2.1 = pre ++ e :: suf) : bw_rd 444 z (354 + 3 * iv pre.length + 1) = some (iv e.2.1) := by
  have hl : pre.length < s.2.2.2.1.length := by rw [hL]; simp
  rw [h.rB hl]; simp [hL]
theorem bRZ.rDx (h : bRZ z s) {pre suf : List bLn} {e : bLn} (hL : s.2.2.2.1 = pre ++ e :: suf) : bw_rd 444 z (354 + 3 * iv pre.length + 2) = some (iv e.2.2) := by
  have hl : pre.length < s.2.2.2.1.length := by rw [hL]; simp
  rw [h.rD hl]; simp [hL]
theorem bRZ.r1x (h : bRZ z s) {pre suf : List bLn} (hL : s.2.2.2.1 = pre ++ suf) : bw_rd 444 z 1 = some (iv ((pre.length + suf.length : Nat) : Int)) := by
  rw [h.r1, hL, List.length_append]
theorem bL_ab (h : bRZ z s) (hl : bLok s) {pre suf : List bLn} {e : bLn} (hL : s.2.2.2.1 = pre ++ e :: suf) : e.1 < 6 ∧ e.2.1 < 6 := by
  have h1 := hl.ab e (by rw [hL]; simp)
  have h2 := h.n6
  omega
/-- a project's number from outside -/
theorem f_isProject (h : bRZ z s) {p : Int} (hp : r32 p) : fX6_isProject z (iv p) = some (if 0 ≤ p ∧ p ≤ (s.1 : Int) - 1 then 1 else 0) := by
  have := h.n6
  unfold fX6_isProject
  rw [h.r0, bw_b1_s]
  simp only [iv_cast, iv_sub]
  rw [f_in hp (r32i (by omega) (by omega)) (r32i (by omega) (by omega)), bw_b1_s, bw_bool_if]
  rfl
theorem f_isOpen (h : bRZ z s) {k : Nat} (hk : k < s.1) (ho : s.2.1 k 7 = 0 ∨ s.2.1 k 7 = 1) : fX6_isOpen z (iv k) = some (if s.2.1 k 7 = 1 then 1 else 0) := by
  unfold fX6_isOpen
  rw [f_at, bw_b1_s, h.rP hk 7 (by omega) (by omega), bw_b1_s, iv_cast, ite_iv (by unfold r32; omega) (by unfold r32; omega)]
  by_cases e : s.2.1 k 7 = 1 <;> simp [e]
theorem f_hasNext (h : bRZ z s) {k : Nat} (hk : k < s.1) (h5 : r32 (s.2.1 k 5)) (h6 : r32 (s.2.1 k 6)) : fX6_hasNext z (iv k) = some (if s.2.1 k 6 < s.2.1 k 5 then 1 else 0) := by
  unfold fX6_hasNext
  rw [f_at, bw_b1_s, h.rP hk 6 (by omega) (by omega), bw_b1_s, bw_b1_s, h.rP hk 5 (by omega) (by omega), bw_b1_s, ite_le h5 h6]
  by_cases e : s.2.1 k 5 ≤ s.2.1 k 6
  · rw [if_pos e, if_neg (by omega)]
  · rw [if_neg e, if_pos (by omega)]
theorem f_hasNext' (h : bRZ z s) {k : Nat} (hk : k < s.1) {m d : Int} (e5 : s.2.1 k 5 = m) (e6 : s.2.1 k 6 = d) (h5 : r32 m) (h6 : r32 d) : fX6_hasNext z (iv k) = some (if d < m then 1 else 0) := by
  subst e5 e6
  exact f_hasNext h hk h5 h6
theorem f_isOpen' (h : bRZ z s) {k : Nat} (hk : k < s.1) {o : Int} (e : s.2.1 k 7 = o) (ho : o = 0 ∨ o = 1) : fX6_isOpen z (iv k) = some (if o = 1 then 1 else 0) := by
  subst e
  exact f_isOpen h hk ho
theorem f_mayDo (h : bRZ z s) {k : Nat} (hk : k < s.1) (ho : s.2.1 k 7 = 0 ∨ s.2.1 k 7 = 1) (h5 : r32 (s.2.1 k 5)) (h6 : r32 (s.2.1 k 6)) : fX6_mayDo z (iv k) = some (if s.2.1 k 7 = 1 ∧ s.2.1 k 6 < s.2.1 k 5 then 1 else 0) := by
  unfold fX6_mayDo jX6_mayDo_20
  rw [f_isOpen h hk ho, bw_b1_s, ite_10]
  by_cases e : s.2.1 k 7 = 1
  · rw [if_pos e, f_hasNext h hk h5 h6, bw_b1_s, ite_10]
    by_cases e2 : s.2.1 k 6 < s.2.1 k 5 <;> simp [e, e2]
  · simp [e]
theorem l_placeOf (h : bRZ z s) (hl : bLok s) {a b : Nat} (ha : a < 6) (hb : b < 6) : ∀ (suf pre : List bLn) (n : Nat), s.2.2.2.1 = pre ++ suf → suf.length < n → lX6_placeOf_2 z (iv a) (iv b) n (iv pre.length) = some (iv (bpos a b suf pre.length)) := by
  intro suf
  induction suf with
  | nil =>
    intro pre n hL hn
    cases n with
    | zero => omega
    | succ n =>
      have h30 := h.l30' hL
      show bX6_placeOf_2 (lX6_placeOf_2 z (iv a) (iv b) n) z (iv a) (iv b) (iv pre.length) = _
      unfold bX6_placeOf_2
      rw [h.r1x hL, bw_b1_s, ite_le (r32n (by omega)) (r32n (by omega)), if_pos (by simp)]
      rfl
  | cons e es ih =>
    intro pre n hL hn
    cases n with
    | zero => simp at hn
    | succ n =>
      have h30 := h.l30' hL
      have hab := bL_ab h hl hL
      rw [List.length_cons] at h30 hn
      show bX6_placeOf_2 (lX6_placeOf_2 z (iv a) (iv b) n) z (iv a) (iv b) (iv pre.length) = _
      unfold bX6_placeOf_2
      rw [h.r1x hL, bw_b1_s, ite_le (r32n (by rw [List.length_cons]; omega)) (r32n (by omega)), if_neg (by rw [List.length_cons]; omega)]
      rw [f_loanAt, bw_b1_s, h.rAx hL, bw_b1_s, ite_iv (r32n (by omega)) (r32n (by omega)), bw_b1_s, h.rBx hL, bw_b1_s, ite_iv (r32n (by omega)) (r32n (by omega))]
      have hn2 := ih (pre ++ [e]) n (by rw [hL]; simp) (by omega)
      have e1 : (pre ++ [e]).length = pre.length + 1 := by simp
      rw [e1] at hn2
      have e2 : jX6_placeOf_42 (lX6_placeOf_2 z (iv a) (iv b) n) z (iv a) (iv b) (iv pre.length) = some (iv (bpos a b es (pre.length + 1))) := by
        unfold jX6_placeOf_42
        rw [bw_let_s, iv_succ, hn2]
        rfl
      rw [e2]
      show _ = some (iv (if e.1 = a ∧ e.2.1 = b then (pre.length : Int) else bpos a b es (pre.length + 1)))
      by_cases c1 : e.1 = a
      · by_cases c2 : e.2.1 = b
        · rw [if_pos (by omega), if_pos (by omega), if_pos ⟨c1, c2⟩]
        · rw [if_pos (by omega), if_neg (by omega), if_neg (fun x => c2 x.2)]
      · rw [if_neg (by omega), if_neg (fun x => c1 x.1)]
theorem f_placeOf (h : bRZ z s) (hl : bLok s) {a b : Nat} (ha : a < 6) (hb : b < 6) : fX6_placeOf z (iv a) (iv b) = some (iv (bpos a b s.2.2.2.1 0)) := by
  have h30 := h.l30
  exact l_placeOf h hl ha hb s.2.2.2.1 [] bw_fu rfl (by unfold bw_fu; omega)
theorem bpos_none {a b : Nat} : ∀ {l : List bLn} {i : Int}, bpos a b l i = -1 → 0 ≤ i → bow a b l = 0 ∧ ∀ e ∈ l, ¬(e.1 = a ∧ e.2.1 = b) := by
  intro l
  induction l with
  | nil => intro i h1 h2; exact ⟨rfl, fun e he => by cases he⟩
  | cons x xs ih =>
    intro i h1 h2
    unfold bpos at h1
    by_cases c : x.1 = a ∧ x.2.1 = b
    · rw [if_pos c] at h1; omega
    · rw [if_neg c] at h1
      obtain ⟨h3, h4⟩ := ih h1 (by omega)
      refine ⟨by unfold bow; rw [if_neg c]; exact h3, fun e he => ?_⟩
      rcases List.mem_cons.mp he with rfl | he
      · exact c
      · exact h4 e he
/-- a place: the loan stands there, and nowhere before it -/
theorem bpos_some {a b : Nat} : ∀ {l : List bLn} {i : Nat}, bpos a b l i ≠ -1 → ∃ pre e suf, l = pre ++ e :: suf ∧ bpos a b l i = ((i + pre.length : Nat) : Int) ∧ e.1 = a ∧ e.2.1 = b ∧ bow a b l = e.2.2 ∧ ∀ x ∈ pre, ¬(x.1 = a ∧ x.2.1 = b) := by
  intro l
  induction l with
  | nil => intro i h1; exact absurd rfl h1
  | cons x xs ih =>
    intro i h1
    unfold bpos at h1 ⊢
    by_cases c : x.1 = a ∧ x.2.1 = b
    · refine ⟨[], x, xs, rfl, by rw [if_pos c]; rfl, c.1, c.2, by unfold bow; rw [if_pos c], fun y hy => by cases hy⟩
    · rw [if_neg c] at h1 ⊢
      have h2 : bpos a b xs ((i + 1 : Nat) : Int) ≠ -1 := h1
      obtain ⟨pre, e, suf, h3, h4, h5, h6, h7, h8⟩ := ih h2
      refine ⟨x :: pre, e, suf, by rw [h3]; rfl, ?_, h5, h6, by unfold bow; rw [if_neg c]; exact h7, fun y hy => ?_⟩
      · have h4' : bpos a b xs ((i : Int) + 1) = ((i + 1 + pre.length : Nat) : Int) := h4
        rw [h4', List.length_cons]
        congr 1
        omega
      · rcases List.mem_cons.mp hy with rfl | hy
        · exact c
        · exact h8 y hy
theorem bpos_range {a b : Nat} : ∀ {l : List bLn} {i : Nat}, -1 ≤ bpos a b l i ∧ bpos a b l i < i + l.length := by
  intro l
  induction l with
  | nil => intro i; exact ⟨by show (-1 : Int) ≤ -1; omega, by show (-1 : Int) < i + 0; omega⟩
  | cons x xs ih =>
    intro i
    have := @ih (i + 1)
    unfold bpos
    split
    · rw [List.length_cons]; omega
    · rw [List.length_cons]
      have e : ((i + 1 : Nat) : Int) = (i : Int) + 1 := by omega
      rw [e] at this
      omega
theorem f_owedOf (h : bRZ z s) (hl : bLok s) {a b : Nat} (ha : a < 6) (hb : b < 6) : fX6_owedOf z (iv b) (iv a) = some (iv (bow a b s.2.2.2.1)) := by
  have h30 := h.l30
  have hr : -1 ≤ bpos a b s.2.2.2.1 0 ∧ bpos a b s.2.2.2.1 0 < (0 : Int) + s.2.2.2.1.length := @bpos_range a b s.2.2.2.1 0
  unfold fX6_owedOf
  rw [f_placeOf h hl ha hb, bw_b1_s, iv_cast, iv_neg, ite_iv (r32i (by omega) (by omega)) (r32i (by omega) (by omega))]
  by_cases c : bpos a b s.2.2.2.1 0 = -1
  · rw [if_pos c, (bpos_none c (by omega)).1, iv_cast]
  · rw [if_neg c]
    obtain ⟨pre, e, suf, h3, h4, h5, h6, h7, h8⟩ := bpos_some (i := 0) c
    have h4' : bpos a b s.2.2.2.1 0 = (pre.length : Int) := by rw [Nat.zero_add] at h4; exact h4
    rw [h4', f_loanAt, bw_b1_s, h.rDx h3, bw_b1_s, h7]
theorem l_lentBy (h : bRZ z s) (hl : bLok s) {k : Nat} (hk : k < 6) : ∀ (suf pre : List bLn) (n : Nat) (x : Int), s.2.2.2.1 = pre ++ suf → suf.length < n → lX6_lentBy_4 z (iv k) n (iv x) (iv pre.length) = some (iv (x + blent k suf)) := by
  intro suf
  induction suf with
  | nil =>
    intro pre n x hL hn
    cases n with
    | zero => omega
    | succ n =>
      have h30 := h.l30' hL
      show bX6_lentBy_4 (lX6_lentBy_4 z (iv k) n) z (iv k) (iv x) (iv pre.length) = _
      unfold bX6_lentBy_4
      rw [h.r1x hL, bw_b1_s, ite_le (r32n (by omega)) (r32n (by omega)), if_pos (by simp)]
      simp [blent]
  | cons e es ih =>
    intro pre n x hL hn
    cases n with
    | zero => simp at hn
    | succ n =>
      have h30 := h.l30' hL
      have hab := bL_ab h hl hL
      rw [List.length_cons] at h30 hn
      show bX6_lentBy_4 (lX6_lentBy_4 z (iv k) n) z (iv k) (iv x) (iv pre.length) = _
      unfold bX6_lentBy_4 jX6_lentBy_43
      simp only [bw_let_s]
      rw [h.r1x hL, bw_b1_s, ite_le (r32n (by rw [List.length_cons]; omega)) (r32n (by omega)), if_neg (by rw [List.length_cons]; omega)]
      rw [f_loanAt, bw_b1_s, h.rAx hL, bw_b1_s, ite_iv (r32n (by omega)) (r32n (by omega)), bw_b1_s, h.rDx hL, bw_b1_s]
      have hn2 := fun x => ih (pre ++ [e]) n x (by rw [hL]; simp) (by omega)
      have e1 : (pre ++ [e]).length = pre.length + 1 := by simp
      rw [e1] at hn2
      rw [iv_succ, iv_add, hn2]
      rw [show (0 : Int32) = iv 0 from rfl, iv_add, hn2]
      rw [blent_c]
      by_cases c : e.1 = k
      · rw [if_pos (by omega), if_pos c]; congr 2; omega
      · rw [if_neg (by omega), if_neg c]; congr 2; omega
theorem f_lentBy (h : bRZ z s) (hl : bLok s) {k : Nat} (hk : k < 6) : fX6_lentBy z (iv k) = some (iv (blent k s.2.2.2.1)) := by
  have h30 := h.l30
  have := l_lentBy h hl hk s.2.2.2.1 [] bw_fu 0 rfl (by unfold bw_fu; omega)
  rw [Int.zero_add] at this
  exact this
theorem l_owedBy (h : bRZ z s) (hl : bLok s) {k : Nat} (hk : k < 6) : ∀ (suf pre : List bLn) (n : Nat) (x : Int), s.2.2.2.1 = pre ++ suf → suf.length < n → lX6_owedBy_4 z (iv k) n (iv x) (iv pre.length) = some (iv (x + bowed k suf)) := by
  intro suf
  induction suf with
  | nil =>
    intro pre n x hL hn
    cases n with
    | zero => omega
    | succ n =>
      have h30 := h.l30' hL
      show bX6_owedBy_4 (lX6_owedBy_4 z (iv k) n) z (iv k) (iv x) (iv pre.length) = _
      unfold bX6_owedBy_4
      rw [h.r1x hL, bw_b1_s, ite_le (r32n (by omega)) (r32n (by omega)), if_pos (by simp)]
      simp [bowed]
  | cons e es ih =>
    intro pre n x hL hn
    cases n with
    | zero => simp at hn
    | succ n =>
      have h30 := h.l30' hL
      have hab := bL_ab h hl hL
      rw [List.length_cons] at h30 hn
      show bX6_owedBy_4 (lX6_owedBy_4 z (iv k) n) z (iv k) (iv x) (iv pre.length) = _
      unfold bX6_owedBy_4 jX6_owedBy_45
      simp only [bw_let_s]
      rw [h.r1x hL, bw_b1_s, ite_le (r32n (by rw [List.length_cons]; omega)) (r32n (by omega)), if_neg (by rw [List.length_cons]; omega)]
      rw [f_loanAt, bw_b1_s, h.rBx hL, bw_b1_s, ite_iv (r32n (by omega)) (r32n (by omega)), bw_b1_s, h.rDx hL, bw_b1_s]
      have hn2 := fun x => ih (pre ++ [e]) n x (by rw [hL]; simp) (by omega)
      have e1 : (pre ++ [e]).length = pre.length + 1 := by simp
      rw [e1] at hn2
      rw [iv_succ, iv_add, hn2]
      rw [show (0 : Int32) = iv 0 from rfl, iv_add, hn2]
      rw [bowed_c]
      by_cases c : e.2.1 = k
      · rw [if_pos (by omega), if_pos c]; congr 2; omega
      · rw [if_neg (by omega), if_neg c]; congr 2; omega
theorem f_owedBy (h : bRZ z s) (hl : bLok s) {k : Nat} (hk : k < 6) : fX6_owedBy z (iv k) = some (iv (bowed k s.2.2.2.1)) := by
  have h30 := h.l30
  have := l_owedBy h hl hk s.2.2.2.1 [] bw_fu 0 rfl (by unfold bw_fu; omega)
  rw [Int.zero_add] at this
  exact this
end
