/- needs: 10_base 11_kit 12_refw 13_refs 14_refl 15_pay 16_order 17_charge -/
/-! ===== the class: its tables ===== -/
theorem iv_min {a b : Int} (ha : r32 a) (hb : r32 b) : bw_min (iv a) (iv b) = iv (min a b) := by
  unfold bw_min
  rw [ite_lt hb ha]
  by_cases h : b < a
  · rw [if_pos h, Int.min_eq_right (by omega)]
  · rw [if_neg h, Int.min_eq_left (by omega)]
theorem iv_max {a b : Int} (ha : r32 a) (hb : r32 b) : bw_max (iv a) (iv b) = iv (max a b) := by
  unfold bw_max
  rw [ite_lt ha hb]
  by_cases h : a < b
  · rw [if_pos h, Int.max_eq_right (by omega)]
  · rw [if_neg h, Int.max_eq_left (by omega)]
/-! any table -/
theorem t_get {cn : Nat} {cc : Int} {f : Nat → Int32} {r c : Int} {i : Nat} (hn : cn ≤ 1000) (he : r * cc + c = i) (hi : i < cn) : fX3_get cn (iv cc) f (iv r) (iv c) = some (f i) := by
  unfold fX3_get jX3_get_31
  rw [bw_let_s, iv_mul, iv_add, he, show (0 : Int32) = iv 0 from rfl, ite_lt (r32n (by omega)) (r32i (by omega) (by omega)), if_neg (by omega)]
  rw [show Int32.ofNat cn = iv cn from rfl, ite_le (r32n (by omega)) (r32n (by omega)), if_neg (by omega), iv_rd (by omega) (by omega) (by omega), bw_b1_s]
  rfl
theorem t_put {cn : Nat} {cc : Int} {f : Nat → Int32} {r c : Int} {v : Int32} {i : Nat} (hn : cn ≤ 1000) (he : r * cc + c = i) (hi : i < cn) : fX3_put cn (iv cc) f (iv r) (iv c) v = some (upd f i v) := by
  unfold fX3_put
  rw [bw_let_s, iv_mul, iv_add, he, show (0 : Int32) = iv 0 from rfl, ite_lt (r32n (by omega)) (r32i (by omega) (by omega)), if_neg (by omega)]
  rw [show Int32.ofNat cn = iv cn from rfl, ite_le (r32n (by omega)) (r32n (by omega)), if_neg (by omega), iv_wr (by omega) (by omega) (by omega), bw_b1_s]
  rfl
theorem t_inc {cn : Nat} {cc : Int} {f : Nat → Int32} {r c : Int} {v : Int32} {i : Nat} (hn : cn ≤ 1000) (he : r * cc + c = i) (hi : i < cn) : fX3_increase cn (iv cc) f (iv r) (iv c) v = some (upd f i (f i + v)) := by
  unfold fX3_increase
  rw [bw_let_s, iv_mul, iv_add, he, show (0 : Int32) = iv 0 from rfl, ite_lt (r32n (by omega)) (r32i (by omega) (by omega)), if_neg (by omega)]
  rw [show Int32.ofNat cn = iv cn from rfl, ite_le (r32n (by omega)) (r32n (by omega)), if_neg (by omega), iv_rd (by omega) (by omega) (by omega), bw_b1_s, iv_wr (by omega) (by omega) (by omega), bw_b1_s]
  rfl
/-! the projects' table -/
def bRT (tp : Nat → Int32) (T : Nat → Nat → Int) : Prop := ∀ k c : Nat, k < 6 → c < 14 → tp (14 * k + c) = iv (T k c)
section
variable {tp : Nat → Int32} {T : Nat → Nat → Int}
theorem bRT.congr (h : bRT tp T) {T' : Nat → Nat → Int} (e : ∀ k c : Nat, k < 6 → c < 14 → T' k c = T k c) : bRT tp T' := fun k c hk hc => by rw [e k c hk hc]; exact h k c hk hc
theorem bRT.g (h : bRT tp T) {k : Nat} (hk : k < 6) (c : Nat) (hc : c < 14) : fX3_get 84 14 tp (iv k) (OfNat.ofNat c) = some (iv (T k c)) := by
  rw [iv_castv c, show (14 : Int32) = iv 14 from rfl, t_get (i := 14 * k + c) (by omega) (by omega) (by omega), h k c hk hc]
theorem bRT.gv (h : bRT tp T) {k : Nat} (hk : k < 6) {c : Nat} (hc : c < 14) : fX3_get 84 14 tp (iv k) (iv c) = some (iv (T k c)) := by
  rw [show (14 : Int32) = iv 14 from rfl, t_get (i := 14 * k + c) (by omega) (by omega) (by omega), h k c hk hc]
theorem bRT.u (h : bRT tp T) {k c : Nat} (hk : k < 6) (hc : c < 14) (v : Int) : bRT (upd tp (14 * k + c) (iv v)) (up2 T k c v) := by
  intro k' c' hk' hc'
  by_cases e : k' = k
  · subst e
    by_cases e2 : c' = c
    · subst e2; rw [upd_self, up2_self]
    · rw [upd_ne _ _ (by omega), up2_c _ _ _ _ e2]; exact h k' c' hk' hc'
  · rw [upd_ne _ _ (by omega), up2_k _ _ _ _ e]; exact h k' c' hk' hc'
theorem bRT.p (h : bRT tp T) {k : Nat} (hk : k < 6) (c : Nat) (hc : c < 14) (v : Int) : bOk (fX3_put 84 14 tp (iv k) (OfNat.ofNat c) (iv v)) fun tp' => bRT tp' (up2 T k c v) := by
  refine ⟨_, ?_, h.u hk hc v⟩
  rw [iv_castv c, show (14 : Int32) = iv 14 from rfl, t_put (i := 14 * k + c) (by omega) (by omega) (by omega)]
theorem bRT.i (h : bRT tp T) {k : Nat} (hk : k < 6) (c : Nat) (hc : c < 14) (v : Int) : bOk (fX3_increase 84 14 tp (iv k) (OfNat.ofNat c) (iv v)) fun tp' => bRT tp' (up2 T k c (T k c + v)) := by
  refine ⟨_, ?_, h.u hk hc (T k c + v)⟩
  rw [iv_castv c, show (14 : Int32) = iv 14 from rfl, t_inc (i := 14 * k + c) (by omega) (by omega) (by omega), h k c hk hc, iv_add]
end
/-! the loans' table -/
abbrev bRL (tl : Nat → Int32) (nl : Int32) (L : List bLn) : Prop := (nl = iv L.length) ∧ (L.length ≤ 30) ∧ (∀ (i : Nat) (h : i < L.length), tl (3 * i) = iv L[i].1) ∧ (∀ (i : Nat) (h : i < L.length), tl (3 * i + 1) = iv L[i].2.1) ∧ (∀ (i : Nat) (h : i < L.length), tl (3 * i + 2) = iv L[i].2.2)
theorem bRL.n {tl : Nat → Int32} {nl : Int32} {L : List bLn} (h__ : bRL tl nl L) : nl = iv L.length := h__.1
theorem bRL.l30 {tl : Nat → Int32} {nl : Int32} {L : List bLn} (h__ : bRL tl nl L) : L.length ≤ 30 := h__.2.1
theorem bRL.fa {tl : Nat → Int32} {nl : Int32} {L : List bLn} (h__ : bRL tl nl L) : ∀ (i : Nat) (h : i < L.length), tl (3 * i) = iv L[i].1 := h__.2.2.1
theorem bRL.fb {tl : Nat → Int32} {nl : Int32} {L : List bLn} (h__ : bRL tl nl L) : ∀ (i : Nat) (h : i < L.length), tl (3 * i + 1) = iv L[i].2.1 := h__.2.2.2.1
theorem bRL.fd {tl : Nat → Int32} {nl : Int32} {L : List bLn} (h__ : bRL tl nl L) : ∀ (i : Nat) (h : i < L.length), tl (3 * i + 2) = iv L[i].2.2 := h__.2.2.2.2
section
variable {tl : Nat → Int32} {nl : Int32} {pre suf : List bLn} {e : bLn}
theorem bRL.len (h : bRL tl nl (pre ++ e :: suf)) : pre.length + suf.length + 1 ≤ 30 := by
  have := h.l30
  simp at this
  omega
theorem bRL.ga (h : bRL tl nl (pre ++ e :: suf)) : fX3_get 90 3 tl (iv pre.length) 0 = some (iv e.1) := by
  have h1 := h.len
  have := h.fa pre.length (by simp)
  rw [show (0 : Int32) = iv 0 from rfl, show (3 : Int32) = iv 3 from rfl, t_get (i := 3 * pre.length) (by omega) (by omega) (by omega), this]
  simp
theorem bRL.gb (h : bRL tl nl (pre ++ e :: suf)) : fX3_get 90 3 tl (iv pre.length) 1 = some (iv e.2.1) := by
  have h1 := h.len
  have := h.fb pre.length (by simp)
  rw [show (1 : Int32) = iv 1 from rfl, show (3 : Int32) = iv 3 from rfl, t_get (i := 3 * pre.length + 1) (by omega) (by omega) (by omega), this]
  simp
theorem bRL.gd (h : bRL tl nl (pre ++ e :: suf)) : fX3_get 90 3 tl (iv pre.length) 2 = some (iv e.2.2) := by
  have h1 := h.len
  have := h.fd pre.length (by simp)
  rw [show (2 : Int32) = iv 2 from rfl, show (3 : Int32) = iv 3 from rfl, t_get (i := 3 * pre.length + 2) (by omega) (by omega) (by omega), this]
  simp
theorem bRL.ud (h : bRL tl nl (pre ++ e :: suf)) (v : Int) : bRL (upd tl (3 * pre.length + 2) (iv v)) nl (pre ++ (e.1, e.2.1, v) :: suf) := by
  refine ⟨by rw [h.n]; simp, by simpa using h.l30, fun i hi => ?_, fun i hi => ?_, fun i hi => ?_⟩
  all_goals have hi' : i < (pre ++ e :: suf).length := by simpa using hi
  · rw [upd_ne _ _ (by omega), h.fa i hi']
    by_cases c : i = pre.length
    · subst c; simp
    · rw [← List.getElem_set_ne (l := pre ++ e :: suf) (i := pre.length) (j := i) (a := (e.1, e.2.1, v)) (by omega) (by simpa using hi')]; simp
  · rw [upd_ne _ _ (by omega), h.fb i hi']
    by_cases c : i = pre.length
    · subst c; simp
    · rw [← List.getElem_set_ne (l := pre ++ e :: suf) (i := pre.length) (j := i) (a := (e.1, e.2.1, v)) (by omega) (by simpa using hi')]; simp
  · by_cases c : i = pre.length
    · subst c; rw [upd_self]; simp
    · rw [upd_ne _ _ (by omega), h.fd i hi', ← List.getElem_set_ne (l := pre ++ e :: suf) (i := pre.length) (j := i) (a := (e.1, e.2.1, v)) (by omega) (by simpa using hi')]; simp
theorem bRL.i (h : bRL tl nl (pre ++ e :: suf)) (v : Int) : bOk (fX3_increase 90 3 tl (iv pre.length) 2 (iv v)) fun tl' => bRL tl' nl (pre ++ (e.1, e.2.1, e.2.2 + v) :: suf) := by
  have h1 := h.len
  refine ⟨_, ?_, h.ud (e.2.2 + v)⟩
  have := h.fd pre.length (by simp)
  rw [show (2 : Int32) = iv 2 from rfl, show (3 : Int32) = iv 3 from rfl, t_inc (i := 3 * pre.length + 2) (by omega) (by omega) (by omega), this, iv_add]
  simp
theorem l_rem : ∀ (d n i : Nat) (tl : Nat → Int32), i + d = 87 → d < n → ∃ tl', lX3_removeRow_7 90 3 n tl (iv i) = some tl' ∧ ∀ j, tl' j = if i ≤ j ∧ j < 87 then tl (j + 3) else tl j := by
  intro d
  induction d with
  | zero =>
    intro n i tl hi hn
    cases n with
    | zero => omega
    | succ n =>
      refine ⟨tl, ?_, fun j => by rw [if_neg (by omega)]⟩
      show bX3_removeRow_7 90 3 (lX3_removeRow_7 90 3 n) tl (iv i) = _
      unfold bX3_removeRow_7
      rw [show (0 : Int32) = iv 0 from rfl, ite_lt (r32n (by omega)) (r32i (by omega) (by omega)), if_neg (by omega), show (Int32.ofNat 90 - 3) = iv 87 from rfl, ite_le (r32i (by omega) (by omega)) (r32n (by omega)), if_pos (by omega)]
  | succ d ih =>
    intro n i tl hi hn
    cases n with
    | zero => omega
    | succ n =>
      obtain ⟨tl', e1, e2⟩ := ih n (i + 1) (upd tl i (tl (i + 3))) (by omega) (by omega)
      refine ⟨tl', ?_, fun j => ?_⟩
      · show bX3_removeRow_7 90 3 (lX3_removeRow_7 90 3 n) tl (iv i) = _
        unfold bX3_removeRow_7
        rw [show (0 : Int32) = iv 0 from rfl, ite_lt (r32n (by omega)) (r32i (by omega) (by omega)), if_neg (by omega), show (Int32.ofNat 90 - 3) = iv 87 from rfl, ite_le (r32i (by omega) (by omega)) (r32n (by omega)), if_neg (by omega)]
        rw [show (3 : Int32) = iv 3 from rfl, iv_add, iv_rd (by omega) (by omega) (by omega), bw_b1_s, iv_wr (by omega) (by omega) (by omega), bw_b1_s, bw_let_s, iv_succ]
        exact e1
      · rw [e2]
        by_cases c : i = j
        · subst c; rw [if_neg (by omega), if_pos (by omega), upd_self]
        · by_cases c2 : i + 1 ≤ j ∧ j < 87
          · rw [if_pos c2, if_pos (by omega), upd_ne _ _ (by omega)]
          · rw [if_neg c2, if_neg (by omega), upd_ne _ _ (by omega)]
theorem bRL.r (h : bRL tl nl (pre ++ e :: suf)) : bOk (fX3_removeRow 90 3 tl (iv pre.length)) fun tl' => bRL tl' (nl - 1) (pre ++ suf) := by
  have h1 := h.len
  obtain ⟨tl', e1, e2⟩ := l_rem (87 - 3 * pre.length) bw_fu (3 * pre.length) tl (by omega) (by unfold bw_fu; omega)
  refine ⟨tl', ?_, ?_⟩
  · unfold fX3_removeRow
    rw [bw_let_s, show (3 : Int32) = iv 3 from rfl, iv_mul, show (pre.length : Int) * 3 = ((3 * pre.length : Nat) : Int) by omega]
    exact e1
  · have hget : ∀ (i : Nat) (hi : i < (pre ++ suf).length), (i < pre.length ∧ ∃ hi' : i < (pre ++ e :: suf).length, (pre ++ suf)[i] = (pre ++ e :: suf)[i]) ∨ (pre.length ≤ i ∧ i < 29 ∧ ∃ hi' : i + 1 < (pre ++ e :: suf).length, (pre ++ suf)[i] = (pre ++ e :: suf)[i + 1]) := by
      intro i hi
      rw [List.length_append] at hi
      by_cases c : i < pre.length
      · left
        refine ⟨c, by simp; omega, ?_⟩
        rw [List.getElem_append_left c, List.getElem_append_left c]
      · right
        refine ⟨by omega, by omega, by simp; omega, ?_⟩
        rw [List.getElem_append_right (by omega), List.getElem_append_right (by omega), List.getElem_cons, dif_neg (by omega)]
        congr 1
        omega
    refine ⟨?_, by simp; omega, fun i hi => ?_, fun i hi => ?_, fun i hi => ?_⟩
    · rw [h.n, show (1 : Int32) = iv 1 from rfl, iv_sub]
      congr 1
      simp
      omega
    · rcases hget i hi with ⟨c, hi', e3⟩ | ⟨c, c2, hi', e3⟩
      · rw [e2, if_neg (by omega), e3]; exact h.fa i hi'
      · rw [e2, if_pos (by omega), e3]; exact h.fa (i + 1) hi'
    · rcases hget i hi with ⟨c, hi', e3⟩ | ⟨c, c2, hi', e3⟩
      · rw [e2, if_neg (by omega), e3]; exact h.fb i hi'
      · rw [e2, if_pos (by omega), e3]; exact h.fb (i + 1) hi'
    · rcases hget i hi with ⟨c, hi', e3⟩ | ⟨c, c2, hi', e3⟩
      · rw [e2, if_neg (by omega), e3]; exact h.fd i hi'
      · rw [e2, if_pos (by omega), e3]; exact h.fd (i + 1) hi'
end
/-- the projects' table, its columns 2, 4 and 5 by the days left and the loans -/
def bT (T : Nat → Nat → Int) (F : Nat → Int) (L : List bLn) (k c : Nat) : Int := if c = 2 then F k else if c = 4 then bowed k L else if c = 5 then blent k L else T k c
abbrev bXL (tp tl : Nat → Int32) (nl : Int32) (T : Nat → Nat → Int) (F : Nat → Int) (L : List bLn) : Prop := (bRT tp (bT T F L)) ∧ (bRL tl nl L)
theorem bXL.t {tp tl : Nat → Int32} {nl : Int32} {T : Nat → Nat → Int} {F : Nat → Int} {L : List bLn} (h__ : bXL tp tl nl T F L) : bRT tp (bT T F L) := h__.1
theorem bXL.l {tp tl : Nat → Int32} {nl : Int32} {T : Nat → Nat → Int} {F : Nat → Int} {L : List bLn} (h__ : bXL tp tl nl T F L) : bRL tl nl L := h__.2
theorem bowed_app (k : Nat) (l m : List bLn) : bowed k (l ++ m) = bowed k l + bowed k m := by
  induction l with
  | nil => simp [bowed]
  | cons x xs ih => rw [List.cons_append, bowed_c, bowed_c, ih]; omega
theorem blent_app (k : Nat) (l m : List bLn) : blent k (l ++ m) = blent k l + blent k m := by
  induction l with
  | nil => simp [blent]
  | cons x xs ih => rw [List.cons_append, blent_c, blent_c, ih]; omega
/-- a loan with other days; none with 0 -/
def bcut (pre : List bLn) (e : bLn) (suf : List bLn) (v : Int) : List bLn := if v = 0 then pre ++ suf else pre ++ (e.1, e.2.1, v) :: suf
theorem bowed_cut (k : Nat) (pre : List bLn) (e : bLn) (suf : List bLn) (v : Int) : bowed k (bcut pre e suf v) = bowed k (pre ++ e :: suf) + if e.2.1 = k then v - e.2.2 else 0 := by
  unfold bcut
  split
  · rename_i h; subst h
    rw [bowed_app, bowed_app, bowed_c]
    split <;> omega
  · rw [bowed_app, bowed_app, bowed_c, bowed_c]
    dsimp only
    split <;> omega
theorem blent_cut (k : Nat) (pre : List bLn) (e : bLn) (suf : List bLn) (v : Int) : blent k (bcut pre e suf v) = blent k (pre ++ e :: suf) + if e.1 = k then v - e.2.2 else 0 := by
  unfold bcut
  split
  · rename_i h; subst h
    rw [blent_app, blent_app, blent_c]
    split <;> omega
  · rw [blent_app, blent_app, blent_c, blent_c]
    dsimp only
    split <;> omega
section
variable {tp tl : Nat → Int32} {nl : Int32} {T : Nat → Nat → Int} {F : Nat → Int} {pre suf : List bLn} {e : bLn}
theorem x_changeLoan (h : bXL tp tl nl T F (pre ++ e :: suf)) (ha : e.1 < 6) (hb : e.2.1 < 6) {x : Int} (hx : r32 (e.2.2 + x)) : bOk (fX0_changeLoan tp tl nl (iv pre.length) (iv x)) fun r => bXL r.1 r.2.1 r.2.2 T F (bcut pre e suf (e.2.2 + x)) := by
  unfold fX0_changeLoan
  refine bOk_b1 (h.l.i x) fun tl1 h1 => ?_
  rw [h1.ga, bw_b1_s]
  refine bOk_b1 (h.t.i ha 5 (by omega) x) fun tp2 h2 => ?_
  rw [h1.gb, bw_b1_s]
  refine bOk_b1 (h2.i hb 4 (by omega) x) fun tp3 h3 => ?_
  rw [h1.gd, bw_b1_s, show (0 : Int32) = iv 0 from rfl, ite_iv (by dsimp only; exact hx) (r32i (by omega) (by omega))]
  have h3' : bRT tp3 (bT T F (bcut pre e suf (e.2.2 + x))) := by
    refine h3.congr fun k c hk hc => ?_
    unfold bT up2
    rw [bowed_cut, blent_cut]
    by_cases c2 : c = 2
    · subst c2; simp
    · by_cases c4 : c = 4
      · subst c4
        by_cases ek : e.2.1 = k
        · subst ek; simp; omega
        · simp [ek, Ne.symm ek]
      · by_cases c5 : c = 5
        · subst c5
          by_cases ek : e.1 = k
          · subst ek; simp; omega
          · simp [ek, Ne.symm ek]
        · simp [c2, c4, c5]
  by_cases c : e.2.2 + x = 0
  · rw [if_pos c]
    refine bOk_b1 h1.r fun tl4 h4 => ?_
    rw [bw_let_s]
    refine bOk_s ⟨h3', ?_⟩
    unfold bcut
    rw [if_pos c]
    exact h4
  · rw [if_neg c]
    refine bOk_s ⟨h3', ?_⟩
    unfold bcut
    rw [if_neg c]
    exact h1
theorem x_moveDays {L : List bLn} (h : bXL tp tl nl T F L) {p q : Nat} (hp : p < 6) (hq : q < 6) (x : Int) : bOk (fX0_moveDays tp (iv p) (iv q) (iv x)) fun tp' => bXL tp' tl nl T (up1 (up1 F p (F p - x)) q (up1 F p (F p - x) q + x)) L := by
  unfold fX0_moveDays
  rw [iv_neg]
  refine bOk_b1 (h.t.i hp 2 (by omega) (-x)) fun tp1 h1 => ?_
  refine bOk_b1 (h1.i hq 2 (by omega) x) fun tp2 h2 => bOk_s ⟨?_, h.l⟩
  refine h2.congr fun k c hk hc => ?_
  unfold bT up2 up1
  by_cases c2 : c = 2
  · subst c2
    by_cases e1 : k = q
    · subst e1
      by_cases e2 : k = p
      · subst e2; simp; omega
      · simp [e2]
    · by_cases e2 : k = p
      · subst e2; simp [e1]; omega
      · simp [e1, e2]
  · simp [c2]
theorem x_useDays {L : List bLn} (h : bXL tp tl nl T F L) {p : Nat} (hp : p < 6) (x : Int) : bOk (fX0_useDays tp (iv p) (iv x)) fun tp' => bXL tp' tl nl (up2 T p 3 (T p 3 + x)) (up1 F p (F p - x)) L := by
  unfold fX0_useDays
  rw [iv_neg]
  refine bOk_b1 (h.t.i hp 2 (by omega) (-x)) fun tp1 h1 => ?_
  refine bOk_b1 (h1.i hp 3 (by omega) x) fun tp2 h2 => bOk_s ⟨?_, h.l⟩
  refine h2.congr fun k c hk hc => ?_
  unfold bT up2 up1
  by_cases c2 : c = 2
  · subst c2
    by_cases e2 : k = p
    · subst e2; simp; omega
    · simp [e2]
  · by_cases c3 : c = 3
    · subst c3
      by_cases e2 : k = p
      · subst e2; simp
      · simp [e2]
    · simp [c2, c3]
theorem x_payLoan (h : bXL tp tl nl T F (pre ++ e :: suf)) (ha : e.1 < 6) (hb : e.2.1 < 6) {x : Int} (hx : r32 (e.2.2 - x)) : bOk (fX0_payLoan tp tl nl (iv pre.length) (iv x)) fun r => bXL r.1 r.2.1 r.2.2 T (up1 (up1 F e.2.1 (F e.2.1 - x)) e.1 (up1 F e.2.1 (F e.2.1 - x) e.1 + x)) (bcut pre e suf (e.2.2 - x)) := by
  unfold fX0_payLoan
  rw [h.l.ga, bw_b1_s, h.l.gb, bw_b1_s, iv_neg]
  refine bOk_b3 (x_changeLoan h ha hb (x := -x) hx) fun tp1 tl1 nl1 h1 => ?_
  dsimp only at h1
  refine bOk_b1 (x_moveDays h1 hb ha x) fun tp2 h2 => bOk_s h2
end
