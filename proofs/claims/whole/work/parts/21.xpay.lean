/- needs: 10_base 11_kit 12_refw 13_refs 14_refl 15_pay 16_order 17_charge 20_tab -/
/-! ===== the class: paying back and calling back ===== -/
theorem bXL.cg {tp tl : Nat → Int32} {nl : Int32} {T T' : Nat → Nat → Int} {F F' : Nat → Int} {L : List bLn} (h : bXL tp tl nl T F L) (eT : ∀ k c : Nat, k < 6 → c < 14 → c ≠ 2 → T' k c = T k c) (eF : ∀ k, k < 6 → F' k = F k) : bXL tp tl nl T' F' L := by
  refine ⟨h.t.congr fun k c hk hc => ?_, h.l⟩
  unfold bT
  by_cases c2 : c = 2
  · subst c2; simp [eF k hk]
  · simp [c2, eT k c hk hc c2]
theorem l_xrepay {b : Nat} (hb : b < 6) {T : Nat → Nat → Int} : ∀ (suf pre : List bLn) (n : Nat) (left : Int) (tp tl : Nat → Int32) (nl : Int32) (F : Nat → Int), bXL tp tl nl T F (pre ++ suf) → suf.length < n → bLd 6 suf → -2000000000 ≤ left ∧ left ≤ 1000000000 → bOk (lX0_repay_11 (iv b) n tp tl nl (iv left) (iv pre.length) (iv suf.length)) fun r => bXL r.1 r.2.1 r.2.2 T (bpay b suf left F).2 (pre ++ (bpay b suf left F).1) := by
  intro suf
  induction suf with
  | nil =>
    intro pre n left tp tl nl F h hn hd hleft
    cases n with
    | zero => omega
    | succ n =>
      show bOk (bX0_repay_11 (lX0_repay_11 (iv b) n) (iv b) tp tl nl (iv left) (iv pre.length) (iv 0)) _
      unfold bX0_repay_11
      rw [show (0 : Int32) = iv 0 from rfl, ite_le (r32i (by omega) (by omega)) (r32i (by omega) (by omega)), if_pos (by omega)]
      exact bOk_s h
  | cons e es ih =>
    intro pre n left tp tl nl F h hn hd hleft
    cases n with
    | zero => simp at hn
    | succ n =>
      have h30 := h.l.len
      have hd0 := hd.h
      rw [List.length_cons] at hn
      show bOk (bX0_repay_11 (lX0_repay_11 (iv b) n) (iv b) tp tl nl (iv left) (iv pre.length) (iv ((es.length + 1 : Nat) : Int))) _
      unfold bX0_repay_11
      rw [show (0 : Int32) = iv 0 from rfl, ite_le (r32n (by omega)) (r32i (by omega) (by omega)), if_neg (by omega), ite_le (r32i (by omega) (by omega)) (r32i (by omega) (by omega)), bpay_c]
      by_cases c0 : left ≤ 0
      · rw [if_pos c0, if_pos c0]
        exact bOk_s h
      · rw [if_neg c0, if_neg c0, h.l.gd, bw_b1_s, h.l.gb, bw_b1_s, ite_iv (r32n (by omega)) (r32n (by omega))]
        have em : iv ((es.length + 1 : Nat) : Int) + (-1) = iv es.length := by
          rw [show (-1 : Int32) = iv (-1) from rfl, iv_add]; congr 1; omega
        unfold jX0_repay_70 jX0_repay_80
        simp only [bw_let_s]
        rw [em]
        by_cases c1 : e.2.1 = b
        · rw [if_pos (by omega), if_pos c1, iv_min (r32i (by omega) (by omega)) (r32i (by omega) (by omega))]
          generalize hv : min left e.2.2 = v
          have hv1 : 0 < v ∧ v ≤ left ∧ v ≤ e.2.2 := by omega
          refine bOk_b3 (x_payLoan h (by omega) (by omega) (x := v) (r32i (by omega) (by omega))) fun tp1 tl1 nl1 h1 => ?_
          dsimp only at h1
          rw [iv_sub, ite_le (r32i (by omega) (by omega)) (r32i (by omega) (by omega))]
          subst c1
          by_cases c2 : v = e.2.2
          · rw [if_pos (by omega)]
            simp only [if_pos c2]
            have e0 : bcut pre e es (e.2.2 - v) = pre ++ es := if_pos (by omega)
            rw [e0] at h1
            exact ih pre n (left - v) tp1 tl1 nl1 _ h1 (by omega) hd.t (by omega)
          · rw [if_neg (by omega)]
            simp only [if_neg c2]
            have e0 : bcut pre e es (e.2.2 - v) = pre ++ [(e.1, e.2.1, e.2.2 - v)] ++ es := by rw [app_snoc]; exact if_neg (by omega)
            rw [e0] at h1
            have := ih (pre ++ [(e.1, e.2.1, e.2.2 - v)]) n (left - v) tp1 tl1 nl1 _ h1 (by omega) hd.t (by omega)
            rw [app_snoc, len_snoc] at this
            rw [iv_succ]
            exact this
        · rw [if_neg (by omega), if_neg c1, ite_le (r32i (by omega) (by omega)) (r32i (by omega) (by omega)), if_neg (by omega)]
          have := ih (pre ++ [e]) n left tp tl nl F (by rw [app_snoc]; exact h) (by omega) hd.t hleft
          rw [app_snoc, len_snoc] at this
          rw [iv_succ]
          exact this
theorem x_repay {b : Nat} (hb : b < 6) {T : Nat → Nat → Int} {tp tl : Nat → Int32} {nl : Int32} {F : Nat → Int} {L : List bLn} (h : bXL tp tl nl T F L) (hd : bLd 6 L) {left : Int} (hleft : -2000000000 ≤ left ∧ left ≤ 1000000000) : bOk (fX0_repay tp tl nl (iv b) (iv left)) fun r => bXL r.1 r.2.1 r.2.2 T (bpay b L left F).2 (bpay b L left F).1 := by
  have h30 := h.l.l30
  unfold fX0_repay
  have := l_xrepay hb L [] bw_fu left tp tl nl F h (by unfold bw_fu; omega) hd hleft
  rw [← h.l.n] at this
  exact this
theorem l_xcall {k np : Nat} (hnp : np ≤ 6) (hk : k < 6) {need : Int} (hneed : 0 ≤ need ∧ need ≤ 1000000000) : ∀ (suf pre : List bLn) (n : Nat) (left : Int) (tp tl : Nat → Int32) (nl : Int32) (T : Nat → Nat → Int) (F : Nat → Int), bXL tp tl nl T F (pre ++ suf) → suf.length < n → bLd np suf → (∀ e ∈ suf, e.1 ≠ e.2.1) → (∀ j, j < np → 0 ≤ F j ∧ F j ≤ 1000000000) → 0 ≤ left ∧ left ≤ need → bOk (lX0_callBack_11 (iv k) (iv need) n tp tl nl (iv (need - left)) (iv pre.length) (iv suf.length)) fun r => r.1 = iv (need - (bcall k suf left F).2.2) ∧ bXL r.2.1 r.2.2.1 r.2.2.2 (up2 T k 3 (T k 3 + (left - (bcall k suf left F).2.2))) (bcall k suf left F).2.1 (pre ++ (bcall k suf left F).1) := by
  intro suf
  induction suf with
  | nil =>
    intro pre n left tp tl nl T F h hn hd hab hF hleft
    cases n with
    | zero => omega
    | succ n =>
      show bOk (bX0_callBack_11 (lX0_callBack_11 (iv k) (iv need) n) (iv k) (iv need) tp tl nl (iv (need - left)) (iv pre.length) (iv 0)) _
      unfold bX0_callBack_11
      rw [show (0 : Int32) = iv 0 from rfl, ite_le (r32i (by omega) (by omega)) (r32i (by omega) (by omega)), if_pos (by omega)]
      refine bOk_s ⟨rfl, h.cg (fun j c hj hc hc2 => ?_) fun j hj => rfl⟩
      show up2 T k 3 (T k 3 + (left - left)) j c = T j c
      unfold up2
      split
      · rename_i q; rw [q.1, q.2]; omega
      · rfl
  | cons e es ih =>
    intro pre n left tp tl nl T F h hn hd hab hF hleft
    cases n with
    | zero => simp at hn
    | succ n =>
      have h30 := h.l.len
      have hd0 := hd.h
      have hab0 := hab e List.mem_cons_self
      have habt : ∀ e ∈ es, e.1 ≠ e.2.1 := fun x hx => hab x (List.mem_cons_of_mem _ hx)
      have hFb := hF e.2.1 hd0.2.1
      rw [List.length_cons] at hn
      show bOk (bX0_callBack_11 (lX0_callBack_11 (iv k) (iv need) n) (iv k) (iv need) tp tl nl (iv (need - left)) (iv pre.length) (iv ((es.length + 1 : Nat) : Int))) _
      unfold bX0_callBack_11
      rw [show (0 : Int32) = iv 0 from rfl, ite_le (r32n (by omega)) (r32i (by omega) (by omega)), if_neg (by omega), ite_le (r32i (by omega) (by omega)) (r32i (by omega) (by omega)), bcall_c]
      by_cases c0 : left ≤ 0
      · rw [if_pos (by omega), if_pos c0]
        refine bOk_s ⟨rfl, h.cg (fun j c hj hc hc2 => ?_) fun j hj => rfl⟩
        show up2 T k 3 (T k 3 + (left - left)) j c = T j c
        unfold up2
        split
        · rename_i q; rw [q.1, q.2]; omega
        · rfl
      · rw [if_neg (by omega), if_neg c0, h.l.gd, bw_b1_s, show fX3_get 90 3 tl (iv pre.length) (iv 0) = some (iv e.1) from h.l.ga, bw_b1_s, ite_iv (r32n (by omega)) (r32n (by omega))]
        have em : iv ((es.length + 1 : Nat) : Int) + (-1) = iv es.length := by
          rw [show (-1 : Int32) = iv (-1) from rfl, iv_add]; congr 1; omega
        unfold jX0_callBack_105 jX0_callBack_115
        simp only [bw_let_s]
        rw [em]
        by_cases c1 : e.1 = k
        · have eF2 : bT T F (pre ++ e :: es) e.2.1 2 = F e.2.1 := rfl
          rw [if_pos (by omega), if_pos c1, h.l.gb, bw_b1_s, h.t.g (by omega) 2 (by omega), bw_b1_s, eF2, iv_min (r32i (by omega) (by omega)) (r32i (by omega) (by omega)), iv_sub, iv_min (r32i (by omega) (by omega)) (r32i (by omega) (by omega))]
          have emn : min (need - (need - left)) (min (F e.2.1) e.2.2) = min left (min e.2.2 (F e.2.1)) := by omega
          rw [emn]
          generalize hv : min left (min e.2.2 (F e.2.1)) = v
          have hv1 : 0 ≤ v ∧ v ≤ left ∧ v ≤ e.2.2 ∧ v ≤ F e.2.1 := by omega
          refine bOk_b3 (x_payLoan h (by omega) (by omega) (x := v) (r32i (by omega) (by omega))) fun tp1 tl1 nl1 h1 => ?_
          dsimp only at h1
          refine bOk_b1 (x_useDays h1 hk v) fun tp2 h2 => ?_
          rw [iv_add, ite_le (r32i (by omega) (by omega)) (r32i (by omega) (by omega)), show need - left + v = need - (left - v) by omega]
          have h3 := h2.cg (T' := up2 T k 3 (T k 3 + v)) (F' := up1 F e.2.1 (F e.2.1 - v)) (fun j c hj hc hc2 => rfl) (fun j hj => by
            subst c1
            unfold up1
            by_cases q : j = e.1
            · subst q; simp [hab0]
            · simp [q])
          have hF2 : ∀ j, j < np → 0 ≤ up1 F e.2.1 (F e.2.1 - v) j ∧ up1 F e.2.1 (F e.2.1 - v) j ≤ 1000000000 := by
            intro j hj
            have := hF j hj
            unfold up1
            split <;> omega
          have hT : ∀ x : Int, ∀ j c, up2 (up2 T k 3 (T k 3 + v)) k 3 (up2 T k 3 (T k 3 + v) k 3 + (left - v - x)) j c = up2 T k 3 (T k 3 + (left - x)) j c := by
            intro x j c
            rw [up2_self]
            unfold up2
            split
            · omega
            · rfl
          by_cases c2 : v = e.2.2
          · rw [if_pos (by omega)]
            simp only [if_pos c2]
            have e0 : bcut pre e es (e.2.2 - v) = pre ++ es := if_pos (by omega)
            rw [e0] at h3
            refine bOk_m (ih pre n (left - v) tp2 tl1 nl1 _ _ h3 (by omega) hd.t habt hF2 (by omega)) fun r hr => ⟨hr.1, hr.2.cg (fun j c hj hc hc2 => (hT _ j c).symm) fun j hj => rfl⟩
          · rw [if_neg (by omega)]
            simp only [if_neg c2]
            have e0 : bcut pre e es (e.2.2 - v) = pre ++ [(e.1, e.2.1, e.2.2 - v)] ++ es := by rw [app_snoc]; exact if_neg (by omega)
            rw [e0] at h3
            have := ih (pre ++ [(e.1, e.2.1, e.2.2 - v)]) n (left - v) tp2 tl1 nl1 _ _ h3 (by omega) hd.t habt hF2 (by omega)
            rw [app_snoc, len_snoc] at this
            rw [iv_succ]
            exact bOk_m this fun r hr => ⟨hr.1, hr.2.cg (fun j c hj hc hc2 => (hT _ j c).symm) fun j hj => rfl⟩
        · rw [if_neg (by omega), if_neg c1, ite_le (r32i (by omega) (by omega)) (r32i (by omega) (by omega)), if_neg (by omega)]
          have := ih (pre ++ [e]) n left tp tl nl T F (by rw [app_snoc]; exact h) (by omega) hd.t habt hF hleft
          rw [app_snoc, len_snoc] at this
          rw [iv_succ]
          exact this
theorem x_callBack {k np : Nat} (hnp : np ≤ 6) (hk : k < 6) {T : Nat → Nat → Int} {tp tl : Nat → Int32} {nl : Int32} {F : Nat → Int} {L : List bLn} (h : bXL tp tl nl T F L) (hd : bLd np L) (hab : ∀ e ∈ L, e.1 ≠ e.2.1) (hF : ∀ j, j < np → 0 ≤ F j ∧ F j ≤ 1000000000) {need : Int} (hneed : 0 ≤ need ∧ need ≤ 1000000000) : bOk (fX0_callBack tp tl nl (iv k) (iv need)) fun r => r.1 = iv (need - (bcall k L need F).2.2) ∧ bXL r.2.1 r.2.2.1 r.2.2.2 (up2 T k 3 (T k 3 + (need - (bcall k L need F).2.2))) (bcall k L need F).2.1 (bcall k L need F).1 := by
  have h30 := h.l.l30
  unfold fX0_callBack
  have := l_xcall hnp hk hneed L [] bw_fu need tp tl nl T F h (by unfold bw_fu; omega) hd hab hF (by omega)
  rw [← h.l.n, Int.sub_self] at this
  exact this
