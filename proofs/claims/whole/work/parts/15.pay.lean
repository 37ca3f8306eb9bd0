/- needs: 10_base 11_kit 12_refw 13_refs 14_refl -/
/-! ===== paying back and calling back ===== -/
/-- a borrower pays its lenders, in the order of the loans -/
def bpay (b : Nat) : List bLn → Int → (Nat → Int) → List bLn × (Nat → Int)
  | [], _, F => ([], F)
  | e :: es, left, F =>
    if left ≤ 0 then (e :: es, F)
    else if e.2.1 = b then
      (if min left e.2.2 = e.2.2 then bpay b es (left - min left e.2.2) (up1 (up1 F b (F b - min left e.2.2)) e.1 (up1 F b (F b - min left e.2.2) e.1 + min left e.2.2))
       else ((e.1, e.2.1, e.2.2 - min left e.2.2) :: (bpay b es (left - min left e.2.2) (up1 (up1 F b (F b - min left e.2.2)) e.1 (up1 F b (F b - min left e.2.2) e.1 + min left e.2.2))).1, (bpay b es (left - min left e.2.2) (up1 (up1 F b (F b - min left e.2.2)) e.1 (up1 F b (F b - min left e.2.2) e.1 + min left e.2.2))).2))
    else (e :: (bpay b es left F).1, (bpay b es left F).2)
theorem bpay_c (b : Nat) (e : bLn) (es : List bLn) (left : Int) (F : Nat → Int) : bpay b (e :: es) left F =
    if left ≤ 0 then (e :: es, F)
    else if e.2.1 = b then
      (if min left e.2.2 = e.2.2 then bpay b es (left - min left e.2.2) (up1 (up1 F b (F b - min left e.2.2)) e.1 (up1 F b (F b - min left e.2.2) e.1 + min left e.2.2))
       else ((e.1, e.2.1, e.2.2 - min left e.2.2) :: (bpay b es (left - min left e.2.2) (up1 (up1 F b (F b - min left e.2.2)) e.1 (up1 F b (F b - min left e.2.2) e.1 + min left e.2.2))).1, (bpay b es (left - min left e.2.2) (up1 (up1 F b (F b - min left e.2.2)) e.1 (up1 F b (F b - min left e.2.2) e.1 + min left e.2.2))).2))
    else (e :: (bpay b es left F).1, (bpay b es left F).2) := rfl
/-- a lender calls back what its borrowers have left, in the order of the loans; the days that are still needed -/
def bcall (k : Nat) : List bLn → Int → (Nat → Int) → List bLn × (Nat → Int) × Int
  | [], left, F => ([], F, left)
  | e :: es, left, F =>
    if left ≤ 0 then (e :: es, F, left)
    else if e.1 = k then
      (if min left (min e.2.2 (F e.2.1)) = e.2.2 then bcall k es (left - min left (min e.2.2 (F e.2.1))) (up1 F e.2.1 (F e.2.1 - min left (min e.2.2 (F e.2.1))))
       else ((e.1, e.2.1, e.2.2 - min left (min e.2.2 (F e.2.1))) :: (bcall k es (left - min left (min e.2.2 (F e.2.1))) (up1 F e.2.1 (F e.2.1 - min left (min e.2.2 (F e.2.1))))).1, (bcall k es (left - min left (min e.2.2 (F e.2.1))) (up1 F e.2.1 (F e.2.1 - min left (min e.2.2 (F e.2.1))))).2))
    else (e :: (bcall k es left F).1, (bcall k es left F).2)
theorem bcall_c (k : Nat) (e : bLn) (es : List bLn) (left : Int) (F : Nat → Int) : bcall k (e :: es) left F =
    if left ≤ 0 then (e :: es, F, left)
    else if e.1 = k then
      (if min left (min e.2.2 (F e.2.1)) = e.2.2 then bcall k es (left - min left (min e.2.2 (F e.2.1))) (up1 F e.2.1 (F e.2.1 - min left (min e.2.2 (F e.2.1))))
       else ((e.1, e.2.1, e.2.2 - min left (min e.2.2 (F e.2.1))) :: (bcall k es (left - min left (min e.2.2 (F e.2.1))) (up1 F e.2.1 (F e.2.1 - min left (min e.2.2 (F e.2.1))))).1, (bcall k es (left - min left (min e.2.2 (F e.2.1))) (up1 F e.2.1 (F e.2.1 - min left (min e.2.2 (F e.2.1))))).2))
    else (e :: (bcall k es left F).1, (bcall k es left F).2) := rfl
/-- loans with days, between projects -/
def bLd (np : Nat) (l : List bLn) : Prop := ∀ e ∈ l, e.1 < np ∧ e.2.1 < np ∧ 0 < e.2.2 ∧ e.2.2 ≤ 1000000000
theorem bLd.t {np : Nat} {e : bLn} {es : List bLn} (h : bLd np (e :: es)) : bLd np es := fun x hx => h x (List.mem_cons_of_mem _ hx)
theorem bLd.h {np : Nat} {e : bLn} {es : List bLn} (h : bLd np (e :: es)) : e.1 < np ∧ e.2.1 < np ∧ 0 < e.2.2 ∧ e.2.2 ≤ 1000000000 := h e List.mem_cons_self
theorem len_snoc {α : Type} (pre : List α) (e : α) : (pre ++ [e]).length = pre.length + 1 := by simp
theorem app_snoc {α : Type} (pre es : List α) (e : α) : pre ++ [e] ++ es = pre ++ e :: es := by simp
theorem l_payAll {b : Nat} : ∀ (suf pre : List bLn) (n : Nat) (left : Int) (z : Nat → Int32) (s : bSt), bRZ z s → s.2.2.2.1 = pre ++ suf → suf.length < n → bLd s.1 suf → b < s.1 → -2000000000 ≤ left ∧ left ≤ 1000000000 → bOk (lX6_payAll_19 (iv b) n z (iv left) (iv pre.length)) fun z' => bRZ z' (s.1, s.2.1, (bpay b suf left s.2.2.1).2, pre ++ (bpay b suf left s.2.2.1).1, s.2.2.2.2.1, s.2.2.2.2.2) := by
  intro suf
  induction suf with
  | nil =>
    intro pre n left z s h hL hn hd hb hleft
    cases n with
    | zero => omega
    | succ n =>
      have h30 := h.l30' hL
      show bOk (bX6_payAll_19 (lX6_payAll_19 (iv b) n) (iv b) z (iv left) (iv pre.length)) _
      unfold bX6_payAll_19
      rw [h.r1x hL, bw_b1_s, ite_le (r32n (by omega)) (r32n (by omega)), if_pos (by simp)]
      refine bOk_s ?_
      show bRZ z (s.1, s.2.1, s.2.2.1, pre ++ [], s.2.2.2.2.1, s.2.2.2.2.2)
      rw [← hL]
      exact h
  | cons e es ih =>
    intro pre n left z s h hL hn hd hb hleft
    cases n with
    | zero => simp at hn
    | succ n =>
      have h6 := h.n6
      have h30 := h.l30' hL
      have hd0 := hd.h
      rw [List.length_cons] at h30 hn
      show bOk (bX6_payAll_19 (lX6_payAll_19 (iv b) n) (iv b) z (iv left) (iv pre.length)) _
      unfold bX6_payAll_19
      rw [h.r1x hL, bw_b1_s, ite_le (r32n (by rw [List.length_cons]; omega)) (r32n (by omega)), if_neg (by rw [List.length_cons]; omega)]
      rw [show (0 : Int32) = iv 0 from rfl, ite_le (r32i (by omega) (by omega)) (r32i (by omega) (by omega)), bpay_c]
      by_cases c0 : left ≤ 0
      · rw [if_pos c0, if_pos c0]
        refine bOk_s ?_
        show bRZ z (s.1, s.2.1, s.2.2.1, pre ++ e :: es, s.2.2.2.2.1, s.2.2.2.2.2)
        rw [← hL]
        exact h
      · rw [if_neg c0, if_neg c0]
        rw [f_loanAt, bw_b1_s, h.rBx hL, bw_b1_s, ite_iv (r32n (by omega)) (r32n (by omega))]
        by_cases c1 : e.2.1 = b
        · rw [if_pos (by omega), if_pos c1, bw_b1_s, h.rDx hL, bw_b1_s, f_least (r32i (by omega) (by omega)) (r32i (by omega) (by omega)), bw_b1_s, bw_b1_s, h.rDx hL, bw_b1_s, ite_iv (r32i (by omega) (by omega)) (r32i (by omega) (by omega))]
          generalize hv : min left e.2.2 = v
          have hv1 : 0 < v ∧ v ≤ left ∧ v ≤ e.2.2 := by omega
          have key : ∀ fl : Int32, (if v = e.2.2 then fl = 1 else fl = 0) → bOk (jX6_payAll_90 (lX6_payAll_19 (iv b) n) z (iv b) (iv left) (iv pre.length) (iv v) fl) fun z' => bRZ z' (s.1, s.2.1, (if v = e.2.2 then bpay b es (left - v) (up1 (up1 s.2.2.1 b (s.2.2.1 b - v)) e.1 (up1 s.2.2.1 b (s.2.2.1 b - v) e.1 + v)) else ((e.1, e.2.1, e.2.2 - v) :: (bpay b es (left - v) (up1 (up1 s.2.2.1 b (s.2.2.1 b - v)) e.1 (up1 s.2.2.1 b (s.2.2.1 b - v) e.1 + v))).1, (bpay b es (left - v) (up1 (up1 s.2.2.1 b (s.2.2.1 b - v)) e.1 (up1 s.2.2.1 b (s.2.2.1 b - v) e.1 + v))).2)).2, pre ++ (if v = e.2.2 then bpay b es (left - v) (up1 (up1 s.2.2.1 b (s.2.2.1 b - v)) e.1 (up1 s.2.2.1 b (s.2.2.1 b - v) e.1 + v)) else ((e.1, e.2.1, e.2.2 - v) :: (bpay b es (left - v) (up1 (up1 s.2.2.1 b (s.2.2.1 b - v)) e.1 (up1 s.2.2.1 b (s.2.2.1 b - v) e.1 + v))).1, (bpay b es (left - v) (up1 (up1 s.2.2.1 b (s.2.2.1 b - v)) e.1 (up1 s.2.2.1 b (s.2.2.1 b - v) e.1 + v))).2)).1, s.2.2.2.2.1, s.2.2.2.2.2) := by
            intro fl hfl
            unfold jX6_payAll_90
            rw [f_at, bw_b1_s, h.rF hb, bw_b1_s, iv_sub]
            refine bOk_b1 (h.wF hb (s.2.2.1 b - v)) fun z1 h1 => ?_
            rw [f_loanAt, bw_b1_s, h1.rAx (pre := pre) (suf := es) (e := e) hL, bw_b1_s, f_at, bw_b1_s, h1.rF hd0.1, bw_b1_s, iv_add]
            refine bOk_b1 (h1.wF hd0.1 _) fun z2 h2 => ?_
            rw [bw_let_s, iv_sub]
            refine bOk_b1 (f_cutLoan h2 (pre := pre) (suf := es) (e := e) hL (x := v) (r32i (by omega) (by omega))) fun z3 h3 => ?_
            dsimp only at h3
            unfold jX6_payAll_158
            simp only [bw_let_s]
            by_cases c2 : v = e.2.2
            · rw [if_pos c2] at hfl
              rw [if_pos (by omega)] at h3
              subst hfl
              rw [if_neg (by decide), show (0 : Int32) = iv 0 from rfl, iv_add, Int.add_zero]
              simp only [if_pos c2]
              exact ih pre n (left - v) z3 _ h3 rfl (by omega) hd.t hb (by omega)
            · rw [if_neg c2] at hfl
              rw [if_neg (by omega)] at h3
              subst hfl
              rw [if_pos rfl, iv_succ, ← len_snoc pre (e.1, e.2.1, e.2.2 - v)]
              simp only [if_neg c2]
              have := ih (pre ++ [(e.1, e.2.1, e.2.2 - v)]) n (left - v) z3 _ h3 (app_snoc _ _ _).symm (by omega) hd.t hb (by omega)
              rw [app_snoc] at this
              exact this
          by_cases c2 : v = e.2.2
          · rw [if_pos c2]; exact key 1 (by rw [if_pos c2])
          · rw [if_neg c2]; exact key (iv 0) (by rw [if_neg c2]; rfl)
        · rw [if_neg (by omega), if_neg c1, bw_let_s, iv_succ, ← len_snoc pre e]
          have := ih (pre ++ [e]) n left z s h (by rw [app_snoc]; exact hL) (by omega) hd.t hb hleft
          rw [app_snoc] at this
          exact this
/-- pay with no more than what is left -/
def bpayA (s : bSt) (b : Nat) (most : Int) : bSt := (s.1, s.2.1, (bpay b s.2.2.2.1 (min most (s.2.2.1 b)) s.2.2.1).2, (bpay b s.2.2.2.1 (min most (s.2.2.1 b)) s.2.2.1).1, s.2.2.2.2.1, s.2.2.2.2.2)
theorem f_payAll {z : Nat → Int32} {s : bSt} (h : bRZ z s) (hd : bLd s.1 s.2.2.2.1) {b : Nat} (hb : b < s.1) (hF : 0 ≤ s.2.2.1 b ∧ s.2.2.1 b ≤ 1000000000) {most : Int} (hm : -2000000000 ≤ most ∧ most ≤ 2000000000) : bOk (fX6_payAll z (iv b) (iv most)) fun z' => bRZ z' (bpayA s b most) := by
  have h30 := h.l30
  unfold fX6_payAll
  rw [f_at, bw_b1_s, h.rF hb, bw_b1_s, f_least (r32i (by omega) (by omega)) (r32i (by omega) (by omega)), bw_b1_s]
  exact l_payAll s.2.2.2.1 [] bw_fu (min most (s.2.2.1 b)) z s h rfl (by unfold bw_fu; omega) hd hb (by omega)
theorem l_callBack {k : Nat} {ca delay : Int32} : ∀ (suf pre : List bLn) (n : Nat) (left : Int) (z : Nat → Int32) (s : bSt), bRZ z s → s.2.2.2.1 = pre ++ suf → suf.length < n → bLd s.1 suf → k < s.1 → (∀ j, j < s.1 → 0 ≤ s.2.2.1 j ∧ s.2.2.1 j ≤ 1000000000) → 0 ≤ left ∧ left ≤ 1000000000 → bOk (lX6_callBack_5 ca (iv k) delay n z (iv left) (iv pre.length)) fun r => bRZ r.1 (s.1, s.2.1, (bcall k suf left s.2.2.1).2.1, pre ++ (bcall k suf left s.2.2.1).1, s.2.2.2.2.1, s.2.2.2.2.2) ∧ r.2 = delay - iv (bcall k suf left s.2.2.1).2.2 := by
  intro suf
  induction suf with
  | nil =>
    intro pre n left z s h hL hn hd hb hF hleft
    cases n with
    | zero => omega
    | succ n =>
      have h30 := h.l30' hL
      show bOk (bX6_callBack_5 (lX6_callBack_5 ca (iv k) delay n) ca (iv k) delay z (iv left) (iv pre.length)) _
      unfold bX6_callBack_5
      rw [h.r1x hL, bw_b1_s, ite_le (r32n (by omega)) (r32n (by omega)), if_pos (by simp)]
      refine bOk_s ⟨?_, rfl⟩
      show bRZ z (s.1, s.2.1, s.2.2.1, pre ++ [], s.2.2.2.2.1, s.2.2.2.2.2)
      rw [← hL]
      exact h
  | cons e es ih =>
    intro pre n left z s h hL hn hd hb hF hleft
    cases n with
    | zero => simp at hn
    | succ n =>
      have h6 := h.n6
      have h30 := h.l30' hL
      have hd0 := hd.h
      have hFb := hF e.2.1 hd0.2.1
      rw [List.length_cons] at h30 hn
      show bOk (bX6_callBack_5 (lX6_callBack_5 ca (iv k) delay n) ca (iv k) delay z (iv left) (iv pre.length)) _
      unfold bX6_callBack_5
      rw [h.r1x hL, bw_b1_s, ite_le (r32n (by rw [List.length_cons]; omega)) (r32n (by omega)), if_neg (by rw [List.length_cons]; omega)]
      rw [show (0 : Int32) = iv 0 from rfl, ite_le (r32i (by omega) (by omega)) (r32i (by omega) (by omega)), bcall_c]
      by_cases c0 : left ≤ 0
      · rw [if_pos c0, if_pos c0]
        refine bOk_s ⟨?_, rfl⟩
        show bRZ z (s.1, s.2.1, s.2.2.1, pre ++ e :: es, s.2.2.2.2.1, s.2.2.2.2.2)
        rw [← hL]
        exact h
      · rw [if_neg c0, if_neg c0]
        rw [f_loanAt, bw_b1_s, h.rAx hL, bw_b1_s, ite_iv (r32n (by omega)) (r32n (by omega))]
        by_cases c1 : e.1 = k
        · rw [if_pos (by omega), if_pos c1, bw_b1_s, h.rBx hL, bw_b1_s, f_at, bw_b1_s, bw_b1_s, h.rDx hL, bw_b1_s, h.rF hd0.2.1, bw_b1_s, f_least (r32i (by omega) (by omega)) (r32i (by omega) (by omega)), bw_b1_s, f_least (r32i (by omega) (by omega)) (r32i (by omega) (by omega)), bw_b1_s, bw_b1_s, h.rDx hL, bw_b1_s, ite_iv (r32i (by omega) (by omega)) (r32i (by omega) (by omega))]
          generalize hv : min left (min e.2.2 (s.2.2.1 e.2.1)) = v
          have hv1 : 0 ≤ v ∧ v ≤ left ∧ v ≤ e.2.2 ∧ v ≤ s.2.2.1 e.2.1 := by omega
          have hF2 : ∀ j, j < s.1 → 0 ≤ up1 s.2.2.1 e.2.1 (s.2.2.1 e.2.1 - v) j ∧ up1 s.2.2.1 e.2.1 (s.2.2.1 e.2.1 - v) j ≤ 1000000000 := by
            intro j hj
            have := hF j hj
            unfold up1
            split <;> omega
          have key : ∀ fl : Int32, (if v = e.2.2 then fl = 1 else fl = 0) → bOk (jX6_callBack_106 (lX6_callBack_5 ca (iv k) delay n) z ca (iv k) delay (iv left) (iv pre.length) (6 + 58 * iv e.2.1) (iv v) fl) fun r => bRZ r.1 (s.1, s.2.1, (if v = e.2.2 then bcall k es (left - v) (up1 s.2.2.1 e.2.1 (s.2.2.1 e.2.1 - v)) else ((e.1, e.2.1, e.2.2 - v) :: (bcall k es (left - v) (up1 s.2.2.1 e.2.1 (s.2.2.1 e.2.1 - v))).1, (bcall k es (left - v) (up1 s.2.2.1 e.2.1 (s.2.2.1 e.2.1 - v))).2)).2.1, pre ++ (if v = e.2.2 then bcall k es (left - v) (up1 s.2.2.1 e.2.1 (s.2.2.1 e.2.1 - v)) else ((e.1, e.2.1, e.2.2 - v) :: (bcall k es (left - v) (up1 s.2.2.1 e.2.1 (s.2.2.1 e.2.1 - v))).1, (bcall k es (left - v) (up1 s.2.2.1 e.2.1 (s.2.2.1 e.2.1 - v))).2)).1, s.2.2.2.2.1, s.2.2.2.2.2) ∧ r.2 = delay - iv (if v = e.2.2 then bcall k es (left - v) (up1 s.2.2.1 e.2.1 (s.2.2.1 e.2.1 - v)) else ((e.1, e.2.1, e.2.2 - v) :: (bcall k es (left - v) (up1 s.2.2.1 e.2.1 (s.2.2.1 e.2.1 - v))).1, (bcall k es (left - v) (up1 s.2.2.1 e.2.1 (s.2.2.1 e.2.1 - v))).2)).2.2 := by
            intro fl hfl
            unfold jX6_callBack_106
            rw [h.rF hd0.2.1, bw_b1_s, iv_sub]
            refine bOk_b1 (h.wF hd0.2.1 (s.2.2.1 e.2.1 - v)) fun z1 h1 => ?_
            rw [bw_let_s, iv_sub]
            refine bOk_b1 (f_cutLoan h1 (pre := pre) (suf := es) (e := e) hL (x := v) (r32i (by omega) (by omega))) fun z3 h3 => ?_
            dsimp only at h3
            unfold jX6_callBack_135 jX6_callBack_147
            simp only [bw_let_s]
            by_cases c2 : v = e.2.2
            · rw [if_pos c2] at hfl
              rw [if_pos (by omega)] at h3
              subst hfl
              rw [if_neg (by decide), show (0 : Int32) = iv 0 from rfl, iv_add, Int.add_zero]
              simp only [if_pos c2]
              exact ih pre n (left - v) z3 _ h3 rfl (by omega) hd.t hb hF2 (by omega)
            · rw [if_neg c2] at hfl
              rw [if_neg (by omega)] at h3
              subst hfl
              rw [if_pos rfl, iv_succ, ← len_snoc pre (e.1, e.2.1, e.2.2 - v)]
              simp only [if_neg c2]
              have := ih (pre ++ [(e.1, e.2.1, e.2.2 - v)]) n (left - v) z3 _ h3 (app_snoc _ _ _).symm (by omega) hd.t hb hF2 (by omega)
              rw [app_snoc] at this
              exact this
          by_cases c2 : v = e.2.2
          · rw [if_pos c2]; exact key 1 (by rw [if_pos c2])
          · rw [if_neg c2]; exact key (iv 0) (by rw [if_neg c2]; rfl)
        · rw [if_neg (by omega), if_neg c1]
          unfold jX6_callBack_135 jX6_callBack_147
          simp only [bw_let_s]
          rw [if_pos (show iv 0 = 0 from rfl), iv_succ, ← len_snoc pre e]
          have := ih (pre ++ [e]) n left z s h (by rw [app_snoc]; exact hL) (by omega) hd.t hb hF hleft
          rw [app_snoc] at this
          exact this
theorem f_callBack {z : Nat → Int32} {s : bSt} (h : bRZ z s) (hd : bLd s.1 s.2.2.2.1) {k : Nat} (hk : k < s.1) (hF : ∀ j, j < s.1 → 0 ≤ s.2.2.1 j ∧ s.2.2.1 j ≤ 1000000000) {ca : Int32} {left : Int} (hm : 0 ≤ left ∧ left ≤ 1000000000) : bOk (fX6_callBack z ca (iv k) (iv left)) fun r => bRZ r.1 (s.1, s.2.1, (bcall k s.2.2.2.1 left s.2.2.1).2.1, (bcall k s.2.2.2.1 left s.2.2.1).1, s.2.2.2.2.1, s.2.2.2.2.2) ∧ r.2 = iv (left - (bcall k s.2.2.2.1 left s.2.2.1).2.2) := by
  have h30 := h.l30
  unfold fX6_callBack
  refine bOk_m (l_callBack s.2.2.2.1 [] bw_fu left z s h rfl (by unfold bw_fu; omega) hd hk hF hm) fun r hr => ⟨hr.1, ?_⟩
  rw [hr.2, iv_sub]
