/- needs: 10_base 11_kit 12_refw 13_refs 14_refl 15_pay 16_order 17_charge 20_tab 21_xpay 22_xqueue -/
/-! ===== the class: lending and borrowing ===== -/
section
variable {tp tl ts : Nat → Int32} {nl : Int32} {T : Nat → Nat → Int} {F : Nat → Int} {L : List bLn}
theorem l_xplace {a b : Nat} (ha : a < 6) (hb : b < 6) (hab : ∀ e ∈ L, e.1 < 6 ∧ e.2.1 < 6) (h : bRL tl nl L) : ∀ (suf pre : List bLn) (n : Nat), L = pre ++ suf → suf.length < n → lX0_placeOfLoan_2 tl nl (iv a) (iv b) n (iv pre.length) = some (iv (bpos a b suf pre.length)) := by
  intro suf
  induction suf with
  | nil =>
    intro pre n hL hn
    cases n with
    | zero => omega
    | succ n =>
      have h30 := h.l30
      have hlen : L.length = pre.length := by rw [hL]; simp
      show bX0_placeOfLoan_2 (lX0_placeOfLoan_2 tl nl (iv a) (iv b) n) tl nl (iv a) (iv b) (iv pre.length) = _
      unfold bX0_placeOfLoan_2
      rw [h.n, ite_le (r32n (by omega)) (r32n (by omega)), if_pos (by omega)]
      rfl
  | cons e es ih =>
    intro pre n hL hn
    cases n with
    | zero => simp at hn
    | succ n =>
      have h30 := h.l30
      have hlen : L.length = pre.length + (es.length + 1) := by rw [hL]; simp
      have hab0 := hab e (by rw [hL]; simp)
      have hr : bRL tl nl (pre ++ e :: es) := by rw [← hL]; exact h
      rw [List.length_cons] at hn
      show bX0_placeOfLoan_2 (lX0_placeOfLoan_2 tl nl (iv a) (iv b) n) tl nl (iv a) (iv b) (iv pre.length) = _
      unfold bX0_placeOfLoan_2
      rw [hr.ga, bw_b1_s, hr.gb, bw_b1_s, ite_iv (r32n (by omega)) (r32n (by omega)), ite_iv (r32n (by omega)) (r32n (by omega))]
      have hle : (if nl ≤ iv pre.length then some (-1) else if (e.1 : Int) = a then if (e.2.1 : Int) = b then some (iv pre.length) else jX0_placeOfLoan_38 (lX0_placeOfLoan_2 tl nl (iv a) (iv b) n) tl nl (iv a) (iv b) (iv pre.length) else jX0_placeOfLoan_38 (lX0_placeOfLoan_2 tl nl (iv a) (iv b) n) tl nl (iv a) (iv b) (iv pre.length)) = if (e.1 : Int) = a then if (e.2.1 : Int) = b then some (iv pre.length) else jX0_placeOfLoan_38 (lX0_placeOfLoan_2 tl nl (iv a) (iv b) n) tl nl (iv a) (iv b) (iv pre.length) else jX0_placeOfLoan_38 (lX0_placeOfLoan_2 tl nl (iv a) (iv b) n) tl nl (iv a) (iv b) (iv pre.length) := by
        rw [if_neg]
        rw [h.n, iv_le (by omega) (by omega) (by omega) (by omega)]
        omega
      rw [hle]
      have hn2 := ih (pre ++ [e]) n (by rw [hL]; simp) (by omega)
      rw [len_snoc] at hn2
      have e2 : jX0_placeOfLoan_38 (lX0_placeOfLoan_2 tl nl (iv a) (iv b) n) tl nl (iv a) (iv b) (iv pre.length) = some (iv (bpos a b es (pre.length + 1))) := by
        unfold jX0_placeOfLoan_38
        rw [bw_let_s, iv_succ, hn2]
        rfl
      rw [e2]
      show _ = some (iv (if e.1 = a ∧ e.2.1 = b then (pre.length : Int) else bpos a b es (pre.length + 1)))
      by_cases c1 : e.1 = a
      · by_cases c2 : e.2.1 = b
        · rw [if_pos (by omega), if_pos (by omega), if_pos ⟨c1, c2⟩]
        · rw [if_pos (by omega), if_neg (by omega), if_neg (fun x => c2 x.2)]
      · rw [if_neg (by omega), if_neg (fun x => c1 x.1)]
theorem x_place {a b : Nat} (ha : a < 6) (hb : b < 6) (hab : ∀ e ∈ L, e.1 < 6 ∧ e.2.1 < 6) (h : bRL tl nl L) : fX0_placeOfLoan tl nl (iv a) (iv b) = some (iv (bpos a b L 0)) := by
  have h30 := h.l30
  exact l_xplace ha hb hab h L [] bw_fu rfl (by unfold bw_fu; omega)
theorem x_get_neg : fX3_get 90 3 tl (-1) 2 = some 0 := by
  unfold fX3_get jX3_get_31
  rw [bw_let_s, if_pos (by decide)]
theorem x_daysOwed {a b : Nat} (ha : a < 6) (hb : b < 6) (hab : ∀ e ∈ L, e.1 < 6 ∧ e.2.1 < 6) (h : bRL tl nl L) : fX0_daysOwed tl nl (iv b) (iv a) = some (iv (bow a b L)) := by
  unfold fX0_daysOwed
  rw [x_place ha hb hab h, bw_b1_s]
  by_cases c : bpos a b L ((0 : Nat) : Int) = -1
  · have c' : bpos a b L 0 = -1 := c
    rw [c', show iv (-1) = -1 from rfl, x_get_neg, bw_b1_s, (bpos_none c (by omega)).1]
    rfl
  · obtain ⟨pre, e, suf, h3, h4, h5, h6, h7, h8⟩ := bpos_some c
    have h4' : bpos a b L 0 = (pre.length : Int) := by rw [Nat.zero_add] at h4; exact h4
    rw [h4', (by rw [← h3]; exact h : bRL tl nl (pre ++ e :: suf)).gd, bw_b1_s, h7]
/-- a new loan of no days -/
theorem x_app (h : bXL tp tl nl T F L) {a b : Nat} (h29 : L.length < 30) : bXL tp (upd (upd (upd tl (3 * L.length) (iv a)) (3 * L.length + 1) (iv b)) (3 * L.length + 2) (iv 0)) (iv ((L.length + 1 : Nat) : Int)) T F (L ++ [⟨a, b, 0⟩]) := by
  refine ⟨h.t.congr fun k c hk hc => ?_, by simp, by simp; omega, fun i hi => ?_, fun i hi => ?_, fun i hi => ?_⟩
  · unfold bT
    rw [bowed_app, blent_app]
    simp [bowed, blent]
  all_goals
    rw [List.length_append, List.length_singleton] at hi
    by_cases c : i < L.length
  · rw [upd_ne _ _ (by omega), upd_ne _ _ (by omega), upd_ne _ _ (by omega), List.getElem_append_left c]; exact h.l.fa i c
  · have c' : i = L.length := by omega
    subst c'
    rw [upd_ne _ _ (by omega), upd_ne _ _ (by omega), upd_self]; simp
  · rw [upd_ne _ _ (by omega), upd_ne _ _ (by omega), upd_ne _ _ (by omega), List.getElem_append_left c]; exact h.l.fb i c
  · have c' : i = L.length := by omega
    subst c'
    rw [upd_ne _ _ (by omega), upd_self]; simp
  · rw [upd_ne _ _ (by omega), upd_ne _ _ (by omega), upd_ne _ _ (by omega), List.getElem_append_left c]; exact h.l.fd i c
  · have c' : i = L.length := by omega
    subst c'
    rw [upd_self]; simp
theorem x_lendDays (h : bXL tp tl nl T F L) (hab : ∀ e ∈ L, e.1 < 6 ∧ e.2.1 < 6) (hp : ∀ e ∈ L, 0 < e.2.2 ∧ e.2.2 ≤ 1000000000) {a b : Nat} (ha : a < 6) (hb : b < 6) (h29 : (∀ e ∈ L, ¬(e.1 = a ∧ e.2.1 = b)) → L.length < 30) {x : Int} (hx : 0 < x ∧ x ≤ 1000000000) : bOk (fX0_lendDays tp tl nl (iv a) (iv b) (iv x)) fun r => bXL r.1 r.2.1 r.2.2 T (up1 (up1 F a (F a - x)) b (up1 F a (F a - x) b + x)) (badd a b x L) := by
  have h30 := h.l.l30
  have hr : -1 ≤ bpos a b L 0 ∧ bpos a b L 0 < (0 : Int) + L.length := @bpos_range a b L 0
  unfold fX0_lendDays
  rw [x_place ha hb hab h.l, bw_b1_s, show (-1 : Int32) = iv (-1) from rfl, ite_iv (r32i (by omega) (by omega)) (r32i (by omega) (by omega))]
  by_cases c : bpos a b L 0 = -1
  · rw [if_pos c]
    have hn := (bpos_none c (by omega)).2
    have h29' := h29 hn
    rw [badd_none hn, bw_let_s, h.l.n, iv_succ]
    rw [show fX3_put 90 3 tl (iv L.length) 0 (iv a) = some (upd tl (3 * L.length) (iv a)) from t_put (cc := 3) (c := 0) (i := 3 * L.length) (by omega) (by omega) (by omega), bw_b1_s]
    rw [show ∀ q : Nat → Int32, fX3_put 90 3 q (iv L.length) 1 (iv b) = some (upd q (3 * L.length + 1) (iv b)) from fun q => t_put (cc := 3) (c := 1) (i := 3 * L.length + 1) (by omega) (by omega) (by omega), bw_b1_s]
    rw [show ∀ q : Nat → Int32, fX3_put 90 3 q (iv L.length) 2 0 = some (upd q (3 * L.length + 2) (iv 0)) from fun q => t_put (cc := 3) (c := 2) (i := 3 * L.length + 2) (by omega) (by omega) (by omega), bw_b1_s]
    unfold jX0_lendDays_63
    have ha' := x_app (a := a) (b := b) h h29'
    refine bOk_b3 (x_changeLoan (pre := L) (suf := []) (e := ⟨a, b, 0⟩) ha' ha hb (x := x) (r32i (by dsimp only; omega) (by dsimp only; omega))) fun tp1 tl1 nl1 h1 => ?_
    dsimp only at h1
    have e0 : bcut L ⟨a, b, 0⟩ [] (0 + x) = L ++ [⟨a, b, x⟩] := by
      unfold bcut
      rw [if_neg (by omega), Int.zero_add]
    rw [e0] at h1
    exact bOk_b1 (x_moveDays h1 ha hb x) fun tp2 h2 => bOk_s h2
  · rw [if_neg c]
    obtain ⟨pre, e, suf, h3, h4, h5, h6, h7, h8⟩ := bpos_some (i := 0) c
    have h4' : bpos a b L 0 = (pre.length : Int) := by rw [Nat.zero_add] at h4; exact h4
    have hpe := hp e (by rw [h3]; simp)
    subst h3
    rw [h4']
    unfold jX0_lendDays_63
    refine bOk_b3 (x_changeLoan h (by omega) (by omega) (x := x) (r32i (by omega) (by omega))) fun tp1 tl1 nl1 h1 => ?_
    dsimp only at h1
    have e0 : bcut pre e suf (e.2.2 + x) = badd a b x (pre ++ e :: suf) := by
      rw [badd_some h8 h5 h6]
      unfold bcut
      rw [if_neg (by omega)]
    rw [e0] at h1
    exact bOk_b1 (x_moveDays h1 ha hb x) fun tp2 h2 => bOk_s h2
theorem l_xborrow {k np : Nat} (hk : k < np) (h6 : np ≤ 6) {tq : bw_A1} {l : List Nat} {c w : Nat → Int} (hq : bRQ tq l c w) (hl6 : l.length ≤ 6) {need : Int} (hneed : 0 ≤ need ∧ need ≤ 1000000000) {bnd : Int} (hbnd : bnd ≤ 500000000) : ∀ (js pre : List Nat) (n : Nat) (left : Int) (tp tl : Nat → Int32) (nl : Int32) (T : Nat → Nat → Int) (F : Nat → Int) (L : List bLn), l = pre ++ js → js.length < n → bXL tp tl nl T F L → bLw np L → (∀ e ∈ L, 0 < e.2.2) → bsum L + bsF F np ≤ bnd → (∀ j, j < np → 0 ≤ F j) → (∀ j ∈ js, j < np ∧ j ≠ k ∧ 0 < c j ∧ c j ≤ F j) → js.Nodup → 0 ≤ left ∧ left ≤ need → bOk (lX0_borrow_12 ts tq (iv np) (iv k) (iv need) (iv l.length) n tp tl nl (iv (need - left)) (iv pre.length)) fun r => r.1 = iv (need - (bbor k c js left L F).2.2) ∧ bXL r.2.1 r.2.2.1 r.2.2.2.2 (up2 T k 3 (T k 3 + (left - (bbor k c js left L F).2.2))) (bbor k c js left L F).2.1 (bbor k c js left L F).1 := by
  intro js
  induction js with
  | nil =>
    intro pre n left tp tl nl T F L hl hn h hw hp hsum hF hj hnd hleft
    cases n with
    | zero => omega
    | succ n =>
      have hlen : l.length = pre.length := by rw [hl]; simp
      show bOk (bX0_borrow_12 (lX0_borrow_12 ts tq (iv np) (iv k) (iv need) (iv l.length) n) ts tq (iv np) (iv k) (iv need) (iv l.length) tp tl nl (iv (need - left)) (iv pre.length)) _
      unfold bX0_borrow_12
      rw [ite_le (r32n (by omega)) (r32n (by omega)), if_pos (by omega)]
      refine bOk_s ⟨rfl, h.cg (fun j c hj hc hc2 => ?_) fun j hj => rfl⟩
      show up2 T k 3 (T k 3 + (left - left)) j c = T j c
      unfold up2
      split
      · rename_i q; rw [q.1, q.2]; omega
      · rfl
  | cons j js ih =>
    intro pre n left tp tl nl T F L hl hn h hw hp hsum hF hj hnd hleft
    cases n with
    | zero => simp at hn
    | succ n =>
      rw [List.length_cons] at hn
      have hlen : l.length = pre.length + (js.length + 1) := by rw [hl]; simp
      have hj0 := hj j List.mem_cons_self
      have hn1 := List.nodup_cons.mp hnd
      show bOk (bX0_borrow_12 (lX0_borrow_12 ts tq (iv np) (iv k) (iv need) (iv l.length) n) ts tq (iv np) (iv k) (iv need) (iv l.length) tp tl nl (iv (need - left)) (iv pre.length)) _
      unfold bX0_borrow_12
      rw [ite_le (r32n (by omega)) (r32n (by omega)), if_neg (by omega), ite_le (r32i (by omega) (by omega)) (r32i (by omega) (by omega)), bbor_c]
      by_cases c0 : left ≤ 0
      · rw [if_pos (by omega), if_pos c0]
        refine bOk_s ⟨rfl, h.cg (fun j c hj hc hc2 => ?_) fun j hj => rfl⟩
        show up2 T k 3 (T k 3 + (left - left)) j c = T j c
        unfold up2
        split
        · rename_i q; rw [q.1, q.2]; omega
        · rfl
      · rw [if_neg (by omega), if_neg c0]
        have hsn := bsum_nn hp
        have hfn := bsF_nn hF
        have hFj := hfn.2 j hj0.1
        have ej : l[pre.length]'(by omega) = j := by simp [hl]
        have er1 : fX3_get 18 3 tq (iv pre.length) 1 = some (iv (c j)) := by
          rw [show (1 : Int32) = iv 1 from rfl, show (3 : Int32) = iv 3 from rfl, t_get (i := 3 * pre.length + 1) (by omega) (by omega) (by omega), hq.fd pre.length (by omega), ej]
        have er0 : fX3_get 18 3 tq (iv pre.length) 0 = some (iv j) := by
          rw [show (0 : Int32) = iv 0 from rfl, show (3 : Int32) = iv 3 from rfl, t_get (i := 3 * pre.length) (by omega) (by omega) (by omega), hq.n pre.length (by omega), ej]
        rw [er1, bw_b1_s, bw_let_s, iv_sub, iv_min (r32i (by omega) (by omega)) (r32i (by omega) (by omega)), er0, bw_b1_s, show need - (need - left) = left by omega]
        generalize hv : min left (c j) = v
        have hv1 : 0 < v ∧ v ≤ left ∧ v ≤ c j := by omega
        refine bOk_b3 (x_lendDays h (fun e he => by have := hw.e he; omega) (fun e he => ⟨hp e he, by have := hsn.2 e he; omega⟩) (by omega) (by omega) (fun hne => hw.l29 h6 hj0.1 hk hj0.2.1 hne) (x := v) (by omega)) fun tp1 tl1 nl1 h1 => ?_
        dsimp only at h1
        refine bOk_b1 (x_useDays h1 (by omega) v) fun tp2 h2 => ?_
        rw [bw_let_s, bw_let_s, iv_add, iv_succ, show need - left + v = need - (left - v) by omega]
        have hjk := hj0.2.1
        have h3 := h2.cg (T' := up2 T k 3 (T k 3 + v)) (F' := up1 F j (F j - v)) (fun j c hj hc hc2 => rfl) (fun i hi => by
          unfold up1
          by_cases q : i = k
          · subst q; simp [Ne.symm hjk]
          · simp [q])
        have hT : ∀ x : Int, ∀ j c, up2 (up2 T k 3 (T k 3 + v)) k 3 (up2 T k 3 (T k 3 + v) k 3 + (left - v - x)) j c = up2 T k 3 (T k 3 + (left - x)) j c := by
          intro x j c
          rw [up2_self]
          unfold up2
          split
          · omega
          · rfl
        have hF2 : ∀ i, i < np → 0 ≤ up1 F j (F j - v) i := by
          intro i hi
          have := hF i hi
          by_cases cb : i = j
          · subst cb; rw [up1_self]; omega
          · rw [up1_ne _ _ cb]; omega
        have := ih (pre ++ [j]) n (left - v) tp2 tl1 nl1 _ _ (badd j k v L) (by rw [app_snoc]; exact hl) (by omega) h3 (badd_w hw hj0.1 hk hjk) (badd_pos hv1.1 hp) (by rw [badd_sum, bsF_up, if_pos hj0.1]; omega) hF2 (fun i hi => by
          have h3 := hj i (List.mem_cons_of_mem _ hi)
          have : i ≠ j := fun e => hn1.1 (e ▸ hi)
          rw [up1_ne _ _ this]
          exact h3) hn1.2 (by omega)
        rw [len_snoc] at this
        exact bOk_m this fun r hr => ⟨hr.1, hr.2.cg (fun j c hj hc hc2 => (hT _ j c).symm) fun j hj => rfl⟩
end
