/- needs: 52.plan -/
/-! ===== texts: the reference reads projects ===== -/
abbrev bgA (a : Int × Int × List Int) : Prop := (1 ≤ a.1 ∧ a.1 ≤ 9) ∧ (0 ≤ a.2.1 ∧ a.2.1 ≤ 99) ∧ bgood a.2.2 ∧ a.2.2.length ≤ 8
def bc59 : List Int → Nat
  | [] => 0
  | c :: cs => (if c = 59 then 1 else 0) + bc59 cs
theorem bc59_app (l m : List Int) : bc59 (l ++ m) = bc59 l + bc59 m := by
  induction l with
  | nil => simp [bc59]
  | cons x xs ih => show (if x = 59 then 1 else 0) + bc59 (xs ++ m) = (if x = 59 then 1 else 0) + bc59 xs + bc59 m; rw [ih]; omega
theorem bRA_mono {rd rd' : Nat → Int32} {A : List (Int × Int × List Int)} (h : bRA rd A) (e : ∀ j, j < 11 * A.length → j < 99 → rd' j = rd j) (h8 : ∀ a ∈ A, a.2.2.length ≤ 8) : bRA rd' A := by
  intro k hk hk9
  obtain ⟨h1, h2, h3, h4⟩ := h k hk hk9
  have h5 := h8 A[k] (List.getElem_mem _)
  refine ⟨by rw [e _ (by omega) (by omega)]; exact h1, by rw [e _ (by omega) (by omega)]; exact h2, by rw [e _ (by omega) (by omega)]; exact h3, fun t ht ht8 => by rw [e _ (by omega) (by omega)]; exact h4 t ht ht8⟩
section
variable {buf : Nat → Int32} {bm : Int32} {C : List Int}
theorem bw_b2s {A B D : Type} (a : A) (b : B) (g : A → B → Option D) : bw_b2 (some (a, b)) g = g a b := rfl
theorem bw_b3s {A B D E : Type} (a : A) (b : B) (d : D) (g : A → B → D → Option E) : bw_b3 (some (a, b, d)) g = g a b d := rfl
theorem bw_b4s {A B D E G : Type} (a : A) (b : B) (d : D) (e : E) (g : A → B → D → E → Option G) : bw_b4 (some (a, b, d, e)) g = g a b d e := rfl
/-- the end of the reading fails here -/
abbrev bfail (suf con : List Int) (t : Nat) : Prop := (brun suf 0 (-1) t).1 = con.length ∧ ¬((brun suf 0 (-1) t).2.1 = 2 ∧ (brun suf 0 (-1) t).2.2.1 ≠ -1)
theorem f_readProject (h : bTX buf bm C) {pre suf : List Int} (hC : C = pre ++ suf) {A : List (Int × Int × List Int)} (hA60 : A.length ≤ 60) {rd : Nat → Int32} (hR : bRA rd A) (hG : ∀ a ∈ A, bgA a) : ∃ (con rest : List Int) (rd' : Nat → Int32) (ok to' : Int32), suf = con ++ rest ∧ fX6_readProject buf bm (iv pre.length) (iv A.length) rd = some (ok, iv ((pre.length + con.length : Nat) : Int), to', rd') ∧ ((ok = 0 ∧ ∀ t, bfail suf con t) ∨ (ok = 1 ∧ ∃ (r b : Int) (nw : List Int) (w : Int), to' = iv ((A.length + 1 : Nat) : Int) ∧ bRA rd' (A ++ [(r, b, nw ++ [w])]) ∧ (∀ a ∈ A ++ [(r, b, nw ++ [w])], bgA a) ∧ (∀ t, brun suf 0 (-1) t = (con.length + (brun rest 2 w (nw.length + 1)).1, (brun rest 2 w (nw.length + 1)).2)) ∧ w ≠ -1 ∧ bstop 2 w rest ∧ (∀ c cs, rest = c :: cs → ¬(c = 43 ∧ nw.length + 1 < 8)) ∧ con ≠ [] ∧ ∀ s, bopT suf 0 0 s = bopT rest 0 w (bplns (bopn s r b) nw))) := by
  have hlen := h.2.1
  have hm : min A.length 9 ≤ 9 := by omega
  generalize hmm : min A.length 9 = m at hm
  have hstart : fX6_readProject buf bm (iv pre.length) (iv A.length) rd = jX6_readProject_20 buf bm (iv pre.length) (iv A.length) rd (iv m) 11 := by
    unfold fX6_readProject
    rw [show (9 : Int32) = iv 9 from rfl, ite_le (r32i (by omega) (by omega)) (r32n (by omega))]
    by_cases q : (9 : Int) ≤ A.length
    · rw [if_pos q, show m = 9 by omega]; rfl
    · rw [if_neg q, show m = A.length by omega]
  rw [hstart]
  obtain ⟨d1, r1, w1, i1, i2, i3, i4, i5, i6, i7, i8⟩ := f_number h (p := 0) (by omega) hC
  have i2' : fX6_number buf bm (iv pre.length) 1 9 = some (iv w1, iv ((pre.length + d1.length : Nat) : Int)) := i2
  have hC1 : C = (pre ++ d1) ++ r1 := by rw [hC, i1]; simp
  have hl1 : (pre ++ d1).length = pre.length + d1.length := by simp
  unfold jX6_readProject_20
  rw [bw_let_s, show (11 : Int32) = iv 11 from rfl, iv_mul, i2', bw_b2s, wr110 (i := 11 * m) (by omega) (by omega), bw_b1_s, rd110 (i := 11 * m) (by omega) (by omega), bw_b1_s, upd_self, show (-1 : Int32) = iv (-1) from rfl, ite_iv (r32i (by omega) (by omega)) (r32i (by omega) (by omega))]
  by_cases q1 : w1 = -1
  · rw [if_pos q1]
    refine ⟨d1, r1, _, 0, _, i1, rfl, .inl ⟨rfl, fun t => ?_⟩⟩
    have e := i5 t
    rw [brun_stop i4 (fun c cs _ => .inl q1)] at e
    unfold bfail
    rw [e]
    exact ⟨rfl, fun q => by have := q.1; simp at this⟩
  · rw [if_neg q1]
    have hd1 : d1 ≠ [] := fun q => q1 (i7 q)
    have hw1 : 1 ≤ w1 ∧ w1 ≤ 9 := i8 hd1
    by_cases k1 : ∃ cs, r1 = 58 :: cs
    · obtain ⟨c1, hr1⟩ := k1
      rw [hr1] at hC1
      have ht := f_takes_yes h hC1
      rw [hl1] at ht
      have ht' : fX6_takes buf bm (iv ((pre.length + d1.length : Nat) : Int)) 58 = some (1, iv ((pre.length + d1.length + 1 : Nat) : Int)) := ht
      rw [ht', bw_b2s, if_neg (show ¬(1 : Int32) = 0 by decide)]
      have hC2 : C = (pre ++ d1 ++ [58]) ++ c1 := by rw [hC1]; simp
      have hl2 : (pre ++ d1 ++ [58]).length = pre.length + d1.length + 1 := by simp; omega
      obtain ⟨d2, r2, w2, j1, j2, j3, j4, j5, j6, j7, j8⟩ := f_number h (p := 1) (by omega) hC2
      rw [hl2] at j2
      have j2' : fX6_number buf bm (iv ((pre.length + d1.length + 1 : Nat) : Int)) 0 99 = some (iv w2, iv ((pre.length + d1.length + 1 + d2.length : Nat) : Int)) := j2
      have hC3 : C = (pre ++ d1 ++ [58] ++ d2) ++ r2 := by rw [hC2, j1]; simp
      have hl3 : (pre ++ d1 ++ [58] ++ d2).length = pre.length + d1.length + 1 + d2.length := by simp; omega
      have hs1 : ∀ t, bstep 0 w1 t 58 = (1, 1, -1, t) := fun t => by
        unfold bstep
        rw [if_neg (by omega), if_neg q1, if_pos ⟨rfl, rfl⟩]
      have run1 : ∀ t, brun suf 0 (-1) t = (d1.length + ((brun c1 1 (-1) t).1 + 1), (brun c1 1 (-1) t).2) := fun t => by
        rw [i5, hr1, brun_c, hs1, if_pos rfl]
      have op1 : ∀ s, bopT suf 0 0 s = bopT c1 w1 0 s := fun s => by
        rw [i6 0 s, hr1, bopT_c, if_neg (by omega), if_pos rfl, if_pos rfl, show max w1 0 = w1 by omega]
      rw [j2', bw_b2s, show (1 : Int32) = iv 1 from rfl, iv_add, wr110 (i := 11 * m + 1) (by omega) (by omega), bw_b1_s, rd110 (i := 11 * m + 1) (by omega) (by omega), bw_b1_s, upd_self, ite_iv (r32i (by omega) (by omega)) (r32i (by omega) (by omega))]
      by_cases q2 : w2 = -1
      · rw [if_pos q2]
        refine ⟨d1 ++ 58 :: d2, r2, _, 0, _, by rw [i1, hr1, j1]; simp, by rw [show pre.length + (d1 ++ 58 :: d2).length = pre.length + d1.length + 1 + d2.length by simp; omega], .inl ⟨rfl, fun t => ?_⟩⟩
        have e := j5 t
        rw [brun_stop j4 (fun c cs _ => .inl q2)] at e
        unfold bfail
        rw [run1, e]
        refine ⟨by simp, fun q => by have := q.1; simp at this⟩
      · rw [if_neg q2]
        have hd2 : d2 ≠ [] := fun q => q2 (j7 q)
        have hw2 : 0 ≤ w2 ∧ w2 ≤ 99 := j8 hd2
        by_cases k2 : ∃ cs, r2 = 58 :: cs
        · obtain ⟨c2, hr2⟩ := k2
          rw [hr2] at hC3
          have ht2 := f_takes_yes h hC3
          rw [hl3] at ht2
          have ht2' : fX6_takes buf bm (iv ((pre.length + d1.length + 1 + d2.length : Nat) : Int)) 58 = some (iv 1, iv ((pre.length + d1.length + 1 + d2.length + 1 : Nat) : Int)) := ht2
          rw [ht2', bw_b2s, if_neg (show ¬iv 1 = 0 by decide), bw_let_s]
          have hC4 : C = (pre ++ d1 ++ [58] ++ d2 ++ [58]) ++ c2 := by rw [hC3]; simp
          have hl4 : (pre ++ d1 ++ [58] ++ d2 ++ [58]).length = pre.length + d1.length + 1 + d2.length + 1 := by simp; omega
          have hs2 : ∀ t, bstep 1 w2 t 58 = (1, 2, -1, 1) := fun t => by
            unfold bstep
            rw [if_neg (by omega), if_neg q2, if_neg (by omega), if_pos ⟨rfl, rfl⟩]
          have run2 : ∀ t, brun suf 0 (-1) t = (d1.length + (d2.length + ((brun c2 2 (-1) 1).1 + 1) + 1), (brun c2 2 (-1) 1).2) := fun t => by
            rw [run1, j5, hr2, brun_c, hs2, if_pos rfl]
          have op2 : ∀ s, bopT suf 0 0 s = bopT c2 0 0 (bopn s w1 w2) := fun s => by
            rw [op1, j6 w1 s, hr2, bopT_c, if_neg (by omega), if_pos rfl, if_neg (by omega), show max w2 0 = w2 by omega]
          unfold fX6_tasks
          generalize hrd1 : upd (upd (upd rd (11 * m) (iv w1)) (11 * m + 1) (iv w2)) (11 * m + 2) (iv 0) = rd1
          have hmi : 11 * (m : Int) = ((11 * m : Nat) : Int) := by omega
          rw [hmi]
          have hw2' : bw_wr 110 (upd (upd rd (11 * m) (iv w1)) (11 * m + 1) (iv w2)) (iv ((11 * m : Nat) : Int) + 2) 0 = some rd1 := by
            rw [show (2 : Int32) = iv 2 from rfl, iv_add, wr110 (i := 11 * m + 2) (by omega) (by omega)]
            exact congrArg some hrd1
          rw [hw2', bw_b1_s]
          have hc0 : bRc rd1 m [] := by
            refine ⟨?_, fun t ht => by simp at ht⟩
            rw [← hrd1, upd_self]
            rfl
          obtain ⟨con, rest, nw, w, rd2, ok, t1, t2, t3, t4⟩ := l_tasks h (m := m) hm bw_fu c2 (pre ++ d1 ++ [58] ++ d2 ++ [58]) rd1 [] hC4 (by have e := congrArg List.length hC4; rw [List.length_append, hl4] at e; unfold bw_fu; omega) (by simp) hc0 (fun x hx => by cases hx)
          rw [hl4] at t2
          have hcl : (d1 ++ 58 :: (d2 ++ 58 :: con)).length = d1.length + (d2.length + (con.length + 1) + 1) := by simp
          have hfr : ∀ j, j < 11 * m → rd2 j = rd j := fun j hj => by
            rw [t3 j (by omega), ← hrd1, upd_ne _ _ (by omega), upd_ne _ _ (by omega), upd_ne _ _ (by omega)]
          have hpl : pre.length + d1.length + 1 + d2.length + 1 + con.length = pre.length + (d1 ++ 58 :: (d2 ++ 58 :: con)).length := by rw [hcl]; omega
          rw [hpl] at t2
          have t2' : lX6_tasks_13 buf bm (iv ((11 * m : Nat) : Int)) bw_fu (iv ((pre.length + d1.length + 1 + d2.length + 1 : Nat) : Int)) rd1 1 1 = some (ok, iv ((pre.length + (d1 ++ 58 :: (d2 ++ 58 :: con)).length : Nat) : Int), rd2) := t2
          rw [t2', bw_b3s]
          rw [List.length_nil, Nat.zero_add] at t4
          rcases t4 with ⟨k1', k2'⟩ | ⟨k1', k2', k3', k4', k5', k6', k7', k8', k9', k10'⟩
          · subst k1'
            refine ⟨d1 ++ 58 :: (d2 ++ 58 :: con), rest, rd2, 0, _, by rw [i1, hr1, j1, hr2, t1]; simp, rfl, .inl ⟨rfl, fun t => ?_⟩⟩
            unfold bfail
            rw [run2, k2', hcl]
            exact ⟨rfl, fun q => q.2 rfl⟩
          · subst k1'
            rw [List.nil_append] at k2' k3'
            rw [Nat.zero_add] at k4' k5' k8'
            have hA8 : ∀ a ∈ A, a.2.2.length ≤ 8 := fun a ha => (hG a ha).2.2.2
            refine ⟨d1 ++ 58 :: (d2 ++ 58 :: con), rest, rd2, 1, iv A.length + iv 1, by rw [i1, hr1, j1, hr2, t1]; simp, rfl, .inr ⟨rfl, w1, w2, nw, w, by rw [iv_add]; rfl, ?_, ?_, fun t => ?_, k6', k7', k8', by simp, fun s => by rw [op2, k10']⟩⟩
            · intro k hk hk9
              rw [len_snoc] at hk
              by_cases c : k < A.length
              · have hmono := bRA_mono (rd' := rd2) hR (fun j hj hj9 => hfr j (by omega)) hA8
                have := hmono k c hk9
                rw [List.getElem_append_left c]
                exact this
              · have ek : k = A.length := by omega
                subst ek
                have em : m = A.length := by omega
                subst em
                rw [List.getElem_append_right (Nat.le_refl _)]
                simp only [Nat.sub_self, List.getElem_singleton]
                refine ⟨?_, ?_, k2'.1, fun t ht _ => k2'.2 t ht⟩
                · rw [t3 _ (by omega), ← hrd1, upd_ne _ _ (by omega), upd_ne _ _ (by omega), upd_self]
                · rw [t3 _ (by omega), ← hrd1, upd_ne _ _ (by omega), upd_self]
            · intro a ha
              rcases List.mem_append.mp ha with ha | ha
              · exact hG a ha
              · rw [List.mem_singleton] at ha
                subst ha
                exact ⟨hw1, hw2, k3', by rw [len_snoc]; exact k4'⟩
            · rw [run2, k5', hcl]
              congr 1
              omega
        · have ht2 := f_takes_no h (c := 58) (by omega) hC3 (fun e es x1 x2 => k2 ⟨es, by rw [x1, x2]⟩)
          rw [hl3] at ht2
          have ht2' : fX6_takes buf bm (iv ((pre.length + d1.length + 1 + d2.length : Nat) : Int)) 58 = some (iv 0, iv ((pre.length + d1.length + 1 + d2.length : Nat) : Int)) := ht2
          rw [ht2', bw_b2s, if_pos (show iv 0 = 0 from rfl)]
          refine ⟨d1 ++ 58 :: d2, r2, _, 0, _, by rw [i1, hr1, j1]; simp, by rw [show pre.length + (d1 ++ 58 :: d2).length = pre.length + d1.length + 1 + d2.length by simp; omega], .inl ⟨rfl, fun t => ?_⟩⟩
          have e := j5 t
          rw [brun_stop j4 (fun c cs x => .inr ⟨by omega, fun y => k2 ⟨cs, by rw [x, y.2]⟩, by omega, by omega⟩)] at e
          unfold bfail
          rw [run1, e]
          refine ⟨by simp, fun q => by have := q.1; simp at this⟩
    · have ht := f_takes_no h (c := 58) (by omega) hC1 (fun e es x1 x2 => k1 ⟨es, by rw [x1, x2]⟩)
      rw [hl1] at ht
      have ht' : fX6_takes buf bm (iv ((pre.length + d1.length : Nat) : Int)) 58 = some (0, iv ((pre.length + d1.length : Nat) : Int)) := ht
      rw [ht', bw_b2s, if_pos rfl]
      refine ⟨d1, r1, _, 0, _, i1, rfl, .inl ⟨rfl, fun t => ?_⟩⟩
      have e := i5 t
      rw [brun_stop i4 (fun c cs x => .inr ⟨fun y => k1 ⟨cs, by rw [x, y.2]⟩, by omega, by omega, by omega⟩)] at e
      unfold bfail
      rw [e]
      exact ⟨rfl, fun q => by have := q.1; simp at this⟩
end
