/- needs: 54.plan3 -/
/-! ===== texts: all that a text tells is begun ===== -/
section
variable {s : bSt} {f b : Int} {cs : Nat → Int32} {ln : Int32} {C : List Int}
/-- the numbers of the class's walk fit the reader's part -/
abbrev bfit (p : Nat) (v r n : Int) (t : Nat) (s : bSt) : Prop := n = max v 0 ∧ ((p = 0 ∧ r = 0) ∨ (p = 1 ∧ 1 ≤ r ∧ r ≤ 9) ∨ (p = 2 ∧ r = 0 ∧ 1 ≤ s.1 ∧ 1 ≤ t ∧ t ≤ 8 ∧ s.2.1 (s.1 - 1) 5 = (t : Int) - 1))
/-- the reader holds a number that it may hold -/
abbrev bnum (p : Nat) (v : Int) : Prop := v = -1 ∨ (bnl p ≤ v ∧ v ≤ bng p)
theorem bpln_5 (s : bSt) (k : Nat) (v : Int) : (bpln s k v).2.1 k 5 = s.2.1 k 5 + 1 := up2_self _ _ _ _
theorem bopn_5 {s : bSt} (hz : ∀ c, s.2.1 s.1 c = 0) (r b : Int) : (bopn s r b).2.1 s.1 5 = 0 := by
  show up2 (up2 (up2 s.2.1 s.1 0 r) s.1 1 b) s.1 7 1 s.1 5 = 0
  rw [up2_c _ _ _ _ (by omega), up2_c _ _ _ _ (by omega), up2_c _ _ _ _ (by omega)]
  exact hz 5
/-- what comes of the rest of a whole plan -/
theorem l_begin (h : bTX cs ln C) : ∀ (suf pre : List Int) (n p : Nat) (v : Int) (t : Nat) (r nn : Int) (s : bSt) (f : Int) (d : Nat → Nat → Int32), C = pre ++ suf → suf.length + 1 < n → p < 3 → bnum p v → t ≤ 8 → bfit p v r nn t s → bRD d s → bIn s f b → s.1 + ((if p = 2 then 0 else 1) + bc59 suf) ≤ 6 → ((brun suf p v t).1 = suf.length ∧ (brun suf p v t).2.1 = 2 ∧ (brun suf p v t).2.2.1 ≠ -1) → bOk (lX5_openProjectsOfText_6 cs ln n d (iv r) (iv nn) (iv pre.length)) (fun d' => bRD d' (bopT suf r nn s)) ∧ bIn (bopT suf r nn s) (f + 99 * (((if p = 2 then 0 else 1) + bc59 suf : Nat) : Int)) b ∧ (bopT suf r nn s).1 = s.1 + ((if p = 2 then 0 else 1) + bc59 suf) := by
  have h' := h
  obtain ⟨h1, h2, h3, h4⟩ := h'
  intro suf
  induction suf with
  | nil =>
    intro pre n p v t r nn s f d hC hn hp hnum ht hfit hd hi hnp hrun
    have hX : bRX (d 0) (d 1) (d 2) (d 3) (d 5 0) (d 5 1) s := hd
    have hp2 : p = 2 := hrun.2.1
    have hv : v ≠ -1 := hrun.2.2
    subst hp2
    have hn1 := hfit.1
    have hf2 : r = 0 ∧ 1 ≤ s.1 ∧ 1 ≤ t ∧ t ≤ 8 ∧ s.2.1 (s.1 - 1) 5 = (t : Int) - 1 := by
      rcases hfit.2 with q | q | q
      · omega
      · omega
      · exact q.2
    have hvr : 1 ≤ v ∧ v ≤ 60 := by
      rcases hnum with q | q
      · exact absurd q hv
      · exact q
    have hnn : nn = v := by omega
    have hl : C.length = pre.length := by rw [hC]; simp
    have hmn := hi.mn (s.1 - 1) (by omega)
    have hI := hi.plan (k := s.1 - 1) (by omega) (by omega) (days := v) hvr
    cases n with
    | zero => omega
    | succ n =>
      cases n with
      | zero => simp at hn
      | succ n =>
        rw [hnn]
        refine ⟨?_, ?_, rfl⟩
        · show bOk (bX5_openProjectsOfText_6 (lX5_openProjectsOfText_6 cs ln (n + 1)) cs ln d (iv r) (iv v) (iv pre.length)) _
          unfold bX5_openProjectsOfText_6 fX4_length
          rw [bw_b1_s, bw_b1_s, h1, ite_lt (r32n (by omega)) (r32n (by omega)), if_neg (by omega), ite_le (r32n (by omega)) (r32n (by omega)), if_pos (by omega)]
          unfold jX5_openProjectsOfText_41 fX0_projects
          rw [show fX2_isDigit 59 = some 0 from rfl, bw_b1_s, if_pos rfl, if_neg (by decide), bw_b1_s, hX.n, show (1 : Int32) = iv 1 from rfl, iv_sub, show ((s.1 : Int) - 1) = ((s.1 - 1 : Nat) : Int) by omega]
          refine bOk_b3 (x_addTask hX (k := s.1 - 1) (by omega) (by omega) (by omega)) fun r1 tp1 tk1 hx => ?_
          rw [bw_let_s]
          unfold jX5_openProjectsOfText_114 jX5_openProjectsOfText_116
          rw [bw_let_s, iv_succ]
          show bOk (bX5_openProjectsOfText_6 (lX5_openProjectsOfText_6 cs (iv C.length) n) cs (iv C.length) _ _ _ (iv ((pre.length + 1 : Nat) : Int))) _
          unfold bX5_openProjectsOfText_6 fX4_length
          rw [bw_b1_s, ite_lt (r32n (by omega)) (r32n (by omega)), if_pos (by omega)]
          refine bOk_s ?_
          exact hx.2
        · have e : f + 99 * (((if (2 : Nat) = 2 then 0 else 1) + bc59 [] : Nat) : Int) = f := by
            show f + 99 * ((0 + 0 : Nat) : Int) = f
            omega
          rw [e]
          exact hI
  | cons c cs' ih =>
    intro pre n p v t r nn s f d hC hn hp hnum ht hfit hd hi hnp hrun
    have hX : bRX (d 0) (d 1) (d 2) (d 3) (d 5 0) (d 5 1) s := hd
    rw [List.length_cons] at hn
    have hl : C.length = pre.length + (cs'.length + 1) := by rw [hC]; simp
    have hg : C[pre.length]'(by omega) = c := by simp [hC]
    have hcr := h4 c (by rw [hC]; simp)
    have hC2 : C = (pre ++ [c]) ++ cs' := by rw [hC]; simp
    have hn1 := hfit.1
    rw [brun_c] at hrun
    have hst : (bstep p v t c).1 = 1 := by
      by_cases q : (bstep p v t c).1 = 1
      · exact q
      · rw [if_neg q] at hrun
        have := hrun.1
        rw [List.length_cons] at this
        exact absurd this (by show ¬(0 = cs'.length + 1); omega)
    rw [if_pos hst, List.length_cons] at hrun
    have hrun2 : (brun cs' (bstep p v t c).2.1 (bstep p v t c).2.2.1 (bstep p v t c).2.2.2).1 = cs'.length ∧ (brun cs' (bstep p v t c).2.1 (bstep p v t c).2.2.1 (bstep p v t c).2.2.2).2.1 = 2 ∧ (brun cs' (bstep p v t c).2.1 (bstep p v t c).2.2.1 (bstep p v t c).2.2.2).2.2.1 ≠ -1 := ⟨by have := hrun.1; dsimp only at this; omega, hrun.2⟩
    cases n with
    | zero => omega
    | succ n =>
      have e0 : ∀ X, lX5_openProjectsOfText_6 cs ln (n + 1) d (iv r) (iv nn) (iv pre.length) = X ↔ jX5_openProjectsOfText_41 (lX5_openProjectsOfText_6 cs ln n) d cs ln (iv r) (iv nn) (iv pre.length) (iv c) = X := by
        intro X
        have : lX5_openProjectsOfText_6 cs ln (n + 1) d (iv r) (iv nn) (iv pre.length) = jX5_openProjectsOfText_41 (lX5_openProjectsOfText_6 cs ln n) d cs ln (iv r) (iv nn) (iv pre.length) (iv c) := by
          show bX5_openProjectsOfText_6 (lX5_openProjectsOfText_6 cs ln n) cs ln d (iv r) (iv nn) (iv pre.length) = _
          unfold bX5_openProjectsOfText_6 fX4_length
          rw [bw_b1_s, bw_b1_s, if_neg (by rw [h1, iv_lt (by omega) (by omega) (by omega) (by omega)]; omega), if_neg (by rw [h1, iv_le (by omega) (by omega) (by omega) (by omega)]; omega), x_codeAt h (i := pre.length) (by omega), bw_b1_s, hg]
        rw [this]
      have e0' : lX5_openProjectsOfText_6 cs ln (n + 1) d (iv r) (iv nn) (iv pre.length) = jX5_openProjectsOfText_41 (lX5_openProjectsOfText_6 cs ln n) d cs ln (iv r) (iv nn) (iv pre.length) (iv c) := (e0 _).mpr rfl
      rw [e0']
      unfold jX5_openProjectsOfText_41 jX5_openProjectsOfText_114 jX5_openProjectsOfText_116 fX0_projects
      simp only [bw_let_s]
      rw [x_digit (r32i (by omega) (by omega)), bw_b1_s, ite_10, iv_succ, bopT_c]
      have e58 : (iv c = 58) = (c = 58) := iv_eq (b := 58) (by omega) (by omega) (by omega) (by omega)
      have h59 : ∀ x : Int, bc59 (x :: cs') = (if x = 59 then 1 else 0) + bc59 cs' := fun _ => rfl
      rw [h59] at hnp ⊢
      by_cases c1 : 48 ≤ c ∧ c ≤ 57
      · have hbs : bstep p v t c = if v ≠ 0 ∧ bnl p ≤ bgr v (c - 48) ∧ bgr v (c - 48) ≤ bng p then (1, p, bgr v (c - 48), t) else (0, p, v, t) := by
          unfold bstep
          rw [if_pos c1]
        by_cases c2 : v ≠ 0 ∧ bnl p ≤ bgr v (c - 48) ∧ bgr v (c - 48) ≤ bng p
        · rw [if_pos c2] at hbs
          rw [hbs] at hrun2
          rw [if_pos c1, if_pos c1, show (10 : Int32) = iv 10 from rfl, show (48 : Int32) = iv 48 from rfl, iv_mul, iv_sub, iv_add]
          rw [if_neg (show ¬c = 59 by omega), Nat.zero_add] at hnp ⊢
          have hnl : 0 ≤ bnl p := by unfold bnl; split <;> omega
          have hgm : nn * 10 + (c - 48) = max (bgr v (c - 48)) 0 := by
            have hb0 : 0 ≤ bgr v (c - 48) := by omega
            rw [hn1]
            unfold bgr at hb0 ⊢
            split <;> omega
          have := ih (pre ++ [c]) n p (bgr v (c - 48)) t r (nn * 10 + (c - 48)) s f d hC2 (by omega) hp (.inr c2.2) ht ⟨hgm, hfit.2⟩ hd hi hnp hrun2
          rw [len_snoc] at this
          exact this
        · rw [if_neg c2] at hbs
          rw [hbs] at hst
          exact absurd hst (by simp)
      · rw [if_neg c1, if_neg c1]
        simp only [e58]
        have hv : v ≠ -1 := fun q => by
          unfold bstep at hst
          rw [if_neg c1, if_pos q] at hst
          exact absurd hst (by simp)
        have hvr : bnl p ≤ v ∧ v ≤ bng p := by
          rcases hnum with q | q
          · exact absurd q hv
          · exact q
        by_cases c3 : p = 0 ∧ c = 58
        · obtain ⟨rfl, rfl⟩ := c3
          have hbs : bstep 0 v t 58 = (1, 1, -1, t) := by
            unfold bstep
            rw [if_neg c1, if_neg hv, if_pos ⟨rfl, rfl⟩]
          rw [hbs] at hrun2
          have hr0 : r = 0 := by
            rcases hfit.2 with q | q | q
            · exact q.2
            · omega
            · omega
          have hv1 : 1 ≤ v ∧ v ≤ 9 := hvr
          have hnn : nn = v := by omega
          subst hr0
          rw [if_pos rfl, if_pos rfl, if_pos (show iv 0 = 0 from rfl), if_pos rfl, hnn]
          rw [if_neg (show ¬(58 : Int) = 59 by omega), Nat.zero_add] at hnp ⊢
          have := ih (pre ++ [58]) n 1 (-1) t v 0 s f d hC2 (by omega) (by omega) (.inl rfl) ht ⟨by omega, .inr (.inl ⟨rfl, hv1.1, hv1.2⟩)⟩ hd hi hnp hrun2
          rw [len_snoc] at this
          exact this
        · by_cases c4 : p = 1 ∧ c = 58
          · obtain ⟨rfl, rfl⟩ := c4
            have hbs : bstep 1 v t 58 = (1, 2, -1, 1) := by
              unfold bstep
              rw [if_neg c1, if_neg hv, if_neg c3, if_pos ⟨rfl, rfl⟩]
            rw [hbs] at hrun2
            have hr1 : 1 ≤ r ∧ r ≤ 9 := by
              rcases hfit.2 with q | q | q
              · omega
              · exact q.2
              · omega
            have hv1 : 0 ≤ v ∧ v ≤ 99 := hvr
            have hnn : nn = v := by omega
            rw [if_neg (show ¬(58 : Int) = 59 by omega), Nat.zero_add, if_neg (show ¬(1 : Nat) = 2 by omega)] at hnp ⊢
            rw [if_pos rfl, if_pos rfl, if_neg (show ¬iv r = 0 by rw [show (0 : Int32) = iv 0 from rfl, iv_eq (by omega) (by omega) (by omega) (by omega)]; omega), if_neg (by omega), hnn]
            have hz := hi.z0 s.1 (Nat.le_refl _)
            have hI := hi.opd (by omega) hr1 hv1
            obtain ⟨q1, hx1, hx2⟩ := x_addProject hX (by omega) hz (r := r) (b := v)
            rw [hx1]
            obtain ⟨r1, tp1, np1⟩ := q1
            have hd1 : bRD (va_up (va_up d 0 tp1) 5 (upd (d 5) 0 np1)) (bopn s r v) := hx2.2
            have := ih (pre ++ [58]) n 2 (-1) 1 0 0 (bopn s r v) (f + 99) _ hC2 (by omega) (by omega) (.inl rfl) (by omega) ⟨by omega, .inr (.inr ⟨rfl, rfl, by show 1 ≤ s.1 + 1; omega, by omega, by omega, by
              show (bopn s r v).2.1 (s.1 + 1 - 1) 5 = _
              rw [Nat.add_sub_cancel, bopn_5 hz.2]
              rfl⟩)⟩ hd1 hI (by show s.1 + 1 + (0 + bc59 cs') ≤ 6; omega) hrun2
            rw [len_snoc] at this
            refine ⟨this.1, ?_, ?_⟩
            · have e : f + 99 + 99 * ((((if (2 : Nat) = 2 then 0 else 1) + bc59 cs' : Nat)) : Int) = f + 99 * ((1 + bc59 cs' : Nat) : Int) := by
                rw [if_pos rfl]
                omega
              rw [← e]
              exact this.2.1
            · rw [this.2.2, if_pos rfl]
              show s.1 + 1 + (0 + bc59 cs') = _
              omega
          · have hc58 : ¬c = 58 := fun q => by
              have : p = 0 ∨ p = 1 ∨ p = 2 := by omega
              rcases this with rfl | rfl | rfl
              · exact c3 ⟨rfl, q⟩
              · exact c4 ⟨rfl, q⟩
              · unfold bstep at hst
                rw [if_neg c1, if_neg hv, if_neg c3, if_neg c4, if_neg (by omega), if_neg (by omega)] at hst
                exact absurd hst (by simp)
            have hp2 : p = 2 := by
              apply Classical.byContradiction
              intro q
              unfold bstep at hst
              rw [if_neg c1, if_neg hv, if_neg c3, if_neg c4, if_neg (by omega), if_neg (by omega)] at hst
              exact absurd hst (by simp)
            subst hp2
            have hf2 : r = 0 ∧ 1 ≤ s.1 ∧ 1 ≤ t ∧ t ≤ 8 ∧ s.2.1 (s.1 - 1) 5 = (t : Int) - 1 := by
              rcases hfit.2 with q | q | q
              · omega
              · omega
              · exact q.2
            have hv1 : 1 ≤ v ∧ v ≤ 60 := hvr
            have hnn : nn = v := by omega
            have hr0 := hf2.1
            subst hr0
            have h6 := hX.n6
            have hmn := hi.mn (s.1 - 1) (by omega)
            have hI := hi.plan (k := s.1 - 1) (by omega) (by omega) (days := v) hv1
            rw [if_neg hc58, if_neg hc58, bw_b1_s, hX.n, show (1 : Int32) = iv 1 from rfl, iv_sub, show ((s.1 : Int) - 1) = ((s.1 - 1 : Nat) : Int) by omega, hnn]
            obtain ⟨q1, hx1, hx2⟩ := x_addTask hX (k := s.1 - 1) (by omega) (by omega) (by omega) (days := v)
            rw [hx1]
            obtain ⟨r1, tp1, tk1⟩ := q1
            have hd1 : bRD (va_up (va_up d 0 tp1) 1 tk1) (bpln s (s.1 - 1) v) := hx2.2
            have h5 := bpln_5 s (s.1 - 1) v
            by_cases c5 : c = 43 ∧ t < 8
            · have hbs : bstep 2 v t c = (1, 2, -1, t + 1) := by
                unfold bstep
                rw [if_neg c1, if_neg hv, if_neg c3, if_neg c4, if_pos ⟨rfl, c5⟩]
              rw [hbs] at hrun2
              rw [if_neg (show ¬c = 59 by omega), Nat.zero_add] at hnp ⊢
              have := ih (pre ++ [c]) n 2 (-1) (t + 1) 0 0 (bpln s (s.1 - 1) v) f _ hC2 (by omega) (by omega) (.inl rfl) (by omega) ⟨by omega, .inr (.inr ⟨rfl, rfl, hf2.2.1, by omega, by omega, by
                show (bpln s (s.1 - 1) v).2.1 (s.1 - 1) 5 = _
                rw [h5]; omega⟩)⟩ hd1 hI hnp hrun2
              rw [len_snoc] at this
              exact this
            · have c6 : c = 59 := by
                apply Classical.byContradiction
                intro q
                unfold bstep at hst
                rw [if_neg c1, if_neg hv, if_neg c3, if_neg c4, if_neg (fun x => c5 x.2), if_neg (fun x => q x.2)] at hst
                exact absurd hst (by simp)
              have hbs : bstep 2 v t c = (1, 0, -1, t) := by
                unfold bstep
                rw [if_neg c1, if_neg hv, if_neg c3, if_neg c4, if_neg (fun x => c5 x.2), if_pos ⟨rfl, c6⟩]
              rw [hbs] at hrun2
              rw [if_pos c6, if_pos rfl] at hnp ⊢
              have := ih (pre ++ [c]) n 0 (-1) t 0 0 (bpln s (s.1 - 1) v) f _ hC2 (by omega) (by omega) (.inl rfl) ht ⟨by omega, .inl ⟨rfl, rfl⟩⟩ hd1 hI (by show s.1 + ((if (0 : Nat) = 2 then 0 else 1) + bc59 cs') ≤ 6; rw [if_neg (by omega)]; omega) hrun2
              rw [len_snoc, if_neg (show ¬(0 : Nat) = 2 by omega)] at this
              rw [Nat.zero_add]
              exact this
end
