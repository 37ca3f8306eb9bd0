/- needs: 47.best -/
/-! ===== texts: the buffer and its reader ===== -/
abbrev bTX (cs : Nat → Int32) (ln : Int32) (C : List Int) : Prop := ln = iv C.length ∧ C.length ≤ 60 ∧ (∀ (i : Nat) (h : i < C.length), cs i = iv C[i]) ∧ ∀ c ∈ C, 33 ≤ c ∧ c ≤ 126
def bnl (p : Nat) : Int := if p = 1 then 0 else 1
def bng (p : Nat) : Int := if p = 0 then 9 else if p = 1 then 99 else 60
def bgr (v d : Int) : Int := if v = -1 then d else v * 10 + d
/-- a digit is taken -/
abbrev bdt (p : Nat) (v c : Int) : Prop := (48 ≤ c ∧ c ≤ 57) ∧ v ≠ 0 ∧ bnl p ≤ bgr v (c - 48) ∧ bgr v (c - 48) ≤ bng p
/-- one step of the reader: taken or not, part, number, tasks -/
def bstep (p : Nat) (v : Int) (t : Nat) (c : Int) : Nat × Nat × Int × Nat :=
  if 48 ≤ c ∧ c ≤ 57 then (if v ≠ 0 ∧ bnl p ≤ bgr v (c - 48) ∧ bgr v (c - 48) ≤ bng p then (1, p, bgr v (c - 48), t) else (0, p, v, t))
  else if v = -1 then (0, p, v, t)
  else if p = 0 ∧ c = 58 then (1, 1, -1, t)
  else if p = 1 ∧ c = 58 then (1, 2, -1, 1)
  else if p = 2 ∧ c = 43 ∧ t < 8 then (1, 2, -1, t + 1)
  else if p = 2 ∧ c = 59 then (1, 0, -1, t)
  else (0, p, v, t)
def brun : List Int → Nat → Int → Nat → Nat × Nat × Int × Nat
  | [], p, v, t => (0, p, v, t)
  | c :: cs, p, v, t => if (bstep p v t c).1 = 1 then ((brun cs (bstep p v t c).2.1 (bstep p v t c).2.2.1 (bstep p v t c).2.2.2).1 + 1, (brun cs (bstep p v t c).2.1 (bstep p v t c).2.2.1 (bstep p v t c).2.2.2).2) else (0, p, v, t)
theorem brun_c (c : Int) (cs : List Int) (p : Nat) (v : Int) (t : Nat) : brun (c :: cs) p v t = if (bstep p v t c).1 = 1 then ((brun cs (bstep p v t c).2.1 (bstep p v t c).2.2.1 (bstep p v t c).2.2.2).1 + 1, (brun cs (bstep p v t c).2.1 (bstep p v t c).2.2.1 (bstep p v t c).2.2.2).2) else (0, p, v, t) := rfl
abbrev bQok (p : Nat) (v : Int) (t : Nat) : Prop := p < 3 ∧ -1 ≤ v ∧ v ≤ 99 ∧ t ≤ 8
theorem bstep_ok {p : Nat} {v : Int} {t : Nat} {c : Int} (h : bQok p v t) : bQok (bstep p v t c).2.1 (bstep p v t c).2.2.1 (bstep p v t c).2.2.2 := by
  obtain ⟨h1, h2, h3, h4⟩ := h
  have hg : bng p ≤ 99 := by unfold bng; split <;> (try split) <;> omega
  have hl : 0 ≤ bnl p := by unfold bnl; split <;> omega
  unfold bstep
  by_cases c1 : 48 ≤ c ∧ c ≤ 57
  · rw [if_pos c1]
    by_cases c2 : v ≠ 0 ∧ bnl p ≤ bgr v (c - 48) ∧ bgr v (c - 48) ≤ bng p
    · rw [if_pos c2]; exact ⟨h1, by dsimp only; omega, by dsimp only; omega, h4⟩
    · rw [if_neg c2]; exact ⟨h1, h2, h3, h4⟩
  · rw [if_neg c1]
    by_cases c2 : v = -1
    · rw [if_pos c2]; exact ⟨h1, h2, h3, h4⟩
    · rw [if_neg c2]
      by_cases c3 : p = 0 ∧ c = 58
      · rw [if_pos c3]; exact ⟨by dsimp only; omega, by dsimp only; omega, by dsimp only; omega, h4⟩
      · rw [if_neg c3]
        by_cases c4 : p = 1 ∧ c = 58
        · rw [if_pos c4]; exact ⟨by dsimp only; omega, by dsimp only; omega, by dsimp only; omega, by dsimp only; omega⟩
        · rw [if_neg c4]
          by_cases c5 : p = 2 ∧ c = 43 ∧ t < 8
          · rw [if_pos c5]; exact ⟨by dsimp only; omega, by dsimp only; omega, by dsimp only; omega, by dsimp only; omega⟩
          · rw [if_neg c5]
            by_cases c6 : p = 2 ∧ c = 59
            · rw [if_pos c6]; exact ⟨by dsimp only; omega, by dsimp only; omega, by dsimp only; omega, h4⟩
            · rw [if_neg c6]; exact ⟨h1, h2, h3, h4⟩
theorem x_digit {c : Int} (hc : r32 c) : fX2_isDigit (iv c) = some (if 48 ≤ c ∧ c ≤ 57 then 1 else 0) := by
  unfold fX2_isDigit jX2_isDigit_16
  rw [show (48 : Int32) = iv 48 from rfl, show (57 : Int32) = iv 57 from rfl, ite_lt hc (r32i (by omega) (by omega)), ite_lt (r32i (by omega) (by omega)) hc]
  by_cases c1 : c < 48
  · rw [if_pos c1, if_neg (by omega)]
  · rw [if_neg c1]
    by_cases c2 : 57 < c
    · rw [if_pos c2, if_neg (by omega)]
    · rw [if_neg c2, if_pos (by omega)]
theorem x_least' {p : Nat} (hp : p < 3) : fX2_leastNumber (iv p) = some (iv (bnl p)) := by
  have h : p = 0 ∨ p = 1 ∨ p = 2 := by omega
  rcases h with rfl | rfl | rfl <;> rfl
theorem x_greatest' {p : Nat} (hp : p < 3) : fX2_greatestNumber (iv p) = some (iv (bng p)) := by
  have h : p = 0 ∨ p = 1 ∨ p = 2 := by omega
  rcases h with rfl | rfl | rfl <;> rfl
theorem x_tdigit {p : Nat} {v d : Int} (hp : p < 3) (hv : -1 ≤ v ∧ v ≤ 99) (hd : 0 ≤ d ∧ d ≤ 9) : fX2_takesDigit (iv p) (iv v) (iv d) = some (if v ≠ 0 ∧ bnl p ≤ bgr v d ∧ bgr v d ≤ bng p then (1, iv (bgr v d)) else (0, iv v)) := by
  have hl : 0 ≤ bnl p ∧ bnl p ≤ 1 := by unfold bnl; split <;> omega
  have hg : 0 ≤ bng p ∧ bng p ≤ 99 := by unfold bng; split <;> (try split) <;> omega
  have key : ∀ g : Int, -1000 ≤ g ∧ g ≤ 10000 → jX2_takesDigit_21 (iv p) (iv v) (iv g) = some (if v ≠ 0 ∧ bnl p ≤ g ∧ g ≤ bng p then (1, iv g) else (0, iv v)) := by
    intro g hgr
    unfold jX2_takesDigit_21
    rw [x_least' hp, bw_b1_s, x_greatest' hp, bw_b1_s, show (0 : Int32) = iv 0 from rfl, ite_iv (r32i (by omega) (by omega)) (r32i (by omega) (by omega)), ite_lt (r32i (by omega) (by omega)) (r32i (by omega) (by omega)), ite_le (r32i (by omega) (by omega)) (r32i (by omega) (by omega))]
    by_cases c1 : v = 0
    · rw [if_pos c1, if_neg (fun q => q.1 c1)]
    · rw [if_neg c1]
      by_cases c2 : g < bnl p
      · rw [if_pos c2, if_neg (fun q => by omega)]
      · rw [if_neg c2]
        by_cases c3 : g ≤ bng p
        · rw [if_pos c3, if_pos ⟨c1, by omega, c3⟩]
        · rw [if_neg c3, if_neg (fun q => c3 q.2.2)]
  unfold fX2_takesDigit
  rw [show (-1 : Int32) = iv (-1) from rfl, show (10 : Int32) = iv 10 from rfl, iv_mul, iv_add, ite_iv (r32i (by omega) (by omega)) (r32i (by omega) (by omega)), key d (by omega), key (v * 10 + d) (by omega)]
  unfold bgr
  by_cases c : v = -1
  · simp only [if_pos c]
  · simp only [if_neg c]
theorem x_sign {p : Nat} {v : Int} {t : Nat} {c : Int} (h : bQok p v t) (hc : 33 ≤ c ∧ c ≤ 126) : fX2_takesSign (iv p) (iv v) (iv t) (iv c) = some (if p = 0 ∧ c = 58 then (1, iv ((1 : Nat) : Int), iv (-1), iv t) else if p = 1 ∧ c = 58 then (1, iv ((2 : Nat) : Int), iv (-1), iv ((1 : Nat) : Int)) else if p = 2 ∧ c = 43 ∧ t < 8 then (1, iv ((2 : Nat) : Int), iv (-1), iv ((t + 1 : Nat) : Int)) else if p = 2 ∧ c = 59 then (1, iv ((0 : Nat) : Int), iv (-1), iv t) else (0, iv p, iv v, iv t)) := by
  obtain ⟨h1, h2, h3, h4⟩ := h
  unfold fX2_takesSign jX2_takesSign_20 jX2_takesSign_46 jX2_takesSign_86 fX2_begin
  simp only [bw_b2_s, bw_let_s]
  rw [iv_succ]
  have e58 : (iv c = 58) = (c = 58) := iv_eq (b := 58) (by omega) (by omega) (by omega) (by omega)
  have e43 : (iv c = 43) = (c = 43) := iv_eq (b := 43) (by omega) (by omega) (by omega) (by omega)
  have e59 : (iv c = 59) = (c = 59) := iv_eq (b := 59) (by omega) (by omega) (by omega) (by omega)
  have e8 : ((8 : Int32) ≤ iv (t : Int)) = ((8 : Int) ≤ t) := iv_le (a := 8) (by omega) (by omega) (by omega) (by omega)
  have hp : p = 0 ∨ p = 1 ∨ p = 2 := by omega
  simp only [e58, e43, e59, e8]
  rcases hp with rfl | rfl | rfl
  · rw [if_pos (show iv ((0 : Nat) : Int) = 0 from rfl)]
    by_cases q : c = 58
    · rw [if_pos q, if_pos ⟨rfl, q⟩]; rfl
    · rw [if_neg q, if_neg (show ¬iv ((0 : Nat) : Int) = 1 by decide), if_neg (show ¬iv ((0 : Nat) : Int) = 2 by decide), if_neg (show ¬iv ((0 : Nat) : Int) = 2 by decide), if_neg (fun x => q x.2), if_neg (fun x => by omega), if_neg (fun x => by omega), if_neg (fun x => by omega)]
  · rw [if_neg (show ¬iv ((1 : Nat) : Int) = 0 by decide), if_pos (show iv ((1 : Nat) : Int) = 1 from rfl)]
    by_cases q : c = 58
    · rw [if_pos q, if_neg (fun x => by omega), if_pos ⟨rfl, q⟩]; rfl
    · rw [if_neg q, if_neg (show ¬iv ((1 : Nat) : Int) = 2 by decide), if_neg (show ¬iv ((1 : Nat) : Int) = 2 by decide), if_neg (fun x => q x.2), if_neg (fun x => q x.2), if_neg (fun x => by omega), if_neg (fun x => by omega)]
  · rw [if_neg (show ¬iv ((2 : Nat) : Int) = 0 by decide), if_neg (show ¬iv ((2 : Nat) : Int) = 1 by decide), if_pos (show iv ((2 : Nat) : Int) = 2 from rfl), if_pos (show iv ((2 : Nat) : Int) = 2 from rfl), if_neg (show ¬((2 : Nat) = 0 ∧ c = 58) from fun x => by omega), if_neg (show ¬((2 : Nat) = 1 ∧ c = 58) from fun x => by omega)]
    by_cases q : c = 43
    · rw [if_pos q]
      by_cases q2 : (8 : Int) ≤ t
      · rw [if_pos q2, if_neg (show ¬c = 59 by omega), if_neg (show ¬((2 : Nat) = 2 ∧ c = 43 ∧ t < 8) from fun x => by omega), if_neg (show ¬((2 : Nat) = 2 ∧ c = 59) from fun x => by omega)]
      · rw [if_neg q2, if_pos ⟨rfl, q, by omega⟩]; rfl
    · rw [if_neg q, if_neg (show ¬((2 : Nat) = 2 ∧ c = 43 ∧ t < 8) from fun x => q x.2.1)]
      by_cases q3 : c = 59
      · rw [if_pos q3, if_pos ⟨rfl, q3⟩]; rfl
      · rw [if_neg q3, if_neg (show ¬((2 : Nat) = 2 ∧ c = 59) from fun x => q3 x.2)]
theorem x_takes {p : Nat} {v : Int} {t : Nat} {c : Int} (h : bQok p v t) (hc : 33 ≤ c ∧ c ≤ 126) : fX2_takes (iv p) (iv v) (iv t) (iv c) = some (iv (bstep p v t c).1, iv (bstep p v t c).2.1, iv (bstep p v t c).2.2.1, iv (bstep p v t c).2.2.2) := by
  have h' := h
  obtain ⟨h1, h2, h3, h4⟩ := h'
  unfold fX2_takes jX2_takes_38
  rw [x_digit (r32i (by omega) (by omega)), bw_b1_s, ite_10, x_sign h hc]
  unfold bstep
  by_cases c1 : 48 ≤ c ∧ c ≤ 57
  · rw [if_pos c1, if_pos c1, show (48 : Int32) = iv 48 from rfl, iv_sub, x_tdigit h1 ⟨h2, h3⟩ (by omega)]
    by_cases c2 : v ≠ 0 ∧ bnl p ≤ bgr v (c - 48) ∧ bgr v (c - 48) ≤ bng p
    · rw [if_pos c2, if_pos c2]; rfl
    · rw [if_neg c2, if_neg c2]; rfl
  · rw [if_neg c1, if_neg c1, show (-1 : Int32) = iv (-1) from rfl, ite_iv (r32i (by omega) (by omega)) (r32i (by omega) (by omega))]
    by_cases c2 : v = -1
    · rw [if_pos c2, if_pos c2]; rfl
    · rw [if_neg c2, if_neg c2]
      by_cases c3 : p = 0 ∧ c = 58
      · rw [if_pos c3, if_pos c3]; rfl
      · rw [if_neg c3, if_neg c3]
        by_cases c4 : p = 1 ∧ c = 58
        · rw [if_pos c4, if_pos c4]; rfl
        · rw [if_neg c4, if_neg c4]
          by_cases c5 : p = 2 ∧ c = 43 ∧ t < 8
          · rw [if_pos c5, if_pos c5]; rfl
          · rw [if_neg c5, if_neg c5]
            by_cases c6 : p = 2 ∧ c = 59
            · rw [if_pos c6, if_pos c6]; rfl
            · rw [if_neg c6, if_neg c6]; rfl
section
variable {cs : Nat → Int32} {ln : Int32} {C : List Int}
theorem x_codeAt (h : bTX cs ln C) {i : Nat} (hi : i < C.length) : fX4_codeAt cs (iv i) = some (iv C[i]) := by
  obtain ⟨h1, h2, h3, h4⟩ := h
  unfold fX4_codeAt
  rw [show (0 : Int32) = iv 0 from rfl, ite_lt (r32n (by omega)) (r32i (by omega) (by omega)), if_neg (by omega), show (60 : Int32) = iv 60 from rfl, ite_le (r32i (by omega) (by omega)) (r32n (by omega)), if_neg (by omega), iv_rd (by omega) (by omega) (by omega), bw_b1_s]
  exact congrArg some (h3 i hi)
theorem l_fault (h : bTX cs ln C) : ∀ (suf pre : List Int) (n p : Nat) (v : Int) (t : Nat), C = pre ++ suf → suf.length < n → bQok p v t → lX4_firstFault_9 cs ln n (iv p) (iv v) (iv t) (iv pre.length) = some (iv ((pre.length + (brun suf p v t).1 : Nat) : Int), iv (brun suf p v t).2.1, iv (brun suf p v t).2.2.1, iv (brun suf p v t).2.2.2) := by
  have h' := h
  obtain ⟨h1, h2, h3, h4⟩ := h'
  intro suf
  induction suf with
  | nil =>
    intro pre n p v t hC hn hq
    cases n with
    | zero => omega
    | succ n =>
      have hl : C.length = pre.length := by rw [hC]; simp
      show bX4_firstFault_9 (lX4_firstFault_9 cs ln n) cs ln (iv p) (iv v) (iv t) (iv pre.length) = _
      unfold bX4_firstFault_9
      rw [h1, ite_le (r32n (by omega)) (r32n (by omega)), if_pos (by omega), hl]
      rfl
  | cons c cs' ih =>
    intro pre n p v t hC hn hq
    cases n with
    | zero => simp at hn
    | succ n =>
      rw [List.length_cons] at hn
      have hl : C.length = pre.length + (cs'.length + 1) := by rw [hC]; simp
      have hlt : pre.length < C.length := by omega
      have hg : C[pre.length] = c := by simp [hC]
      have hcr := h4 c (by rw [hC]; simp)
      show bX4_firstFault_9 (lX4_firstFault_9 cs ln n) cs ln (iv p) (iv v) (iv t) (iv pre.length) = _
      unfold bX4_firstFault_9
      rw [if_neg (by rw [h1, iv_le (by omega) (by omega) (by omega) (by omega)]; omega), x_codeAt h hlt, bw_b1_s, hg, x_takes hq hcr, show ∀ (a b c d : Int32) (g : Int32 → Int32 → Int32 → Int32 → Option (Int32 × Int32 × Int32 × Int32)), bw_b4 (some (a, b, c, d)) g = g a b c d from fun _ _ _ _ _ => rfl, brun_c]
      have hs : (bstep p v t c).1 = 0 ∨ (bstep p v t c).1 = 1 := by
        unfold bstep
        split
        · split
          · right; rfl
          · left; rfl
        · split
          · left; rfl
          · split
            · right; rfl
            · split
              · right; rfl
              · split
                · right; rfl
                · split
                  · right; rfl
                  · left; rfl
      rcases hs with hs | hs
      · have hsame : (bstep p v t c).2 = (p, v, t) := by
          unfold bstep at hs ⊢
          split at hs
          · rename_i a
            split at hs
            · exact absurd hs (by simp)
            · rename_i b; rw [if_pos a, if_neg b]
          · rename_i a
            rw [if_neg a]
            split at hs
            · rename_i b; rw [if_pos b]
            · rename_i b
              rw [if_neg b]
              split at hs
              · exact absurd hs (by simp)
              · rename_i b
                rw [if_neg b]
                split at hs
                · exact absurd hs (by simp)
                · rename_i b
                  rw [if_neg b]
                  split at hs
                  · exact absurd hs (by simp)
                  · rename_i b
                    rw [if_neg b]
                    split at hs
                    · exact absurd hs (by simp)
                    · rename_i b; rw [if_neg b]
        rw [hs, hsame, if_pos (show iv ((0 : Nat) : Int) = 0 from rfl), if_neg (by omega)]
        rfl
      · rw [if_neg (by rw [hs]; decide), if_pos hs, bw_let_s, iv_succ]
        have := ih (pre ++ [c]) n _ _ _ (by rw [hC]; simp) (by omega) (bstep_ok (c := c) hq)
        rw [len_snoc] at this
        rw [this]
        rw [show pre.length + 1 + (brun cs' (bstep p v t c).2.1 (bstep p v t c).2.2.1 (bstep p v t c).2.2.2).1 = pre.length + ((brun cs' (bstep p v t c).2.1 (bstep p v t c).2.2.1 (bstep p v t c).2.2.2).1 + 1) by omega]
/-- the text is a whole plan -/
abbrev bwhole (C : List Int) (t : Nat) : Prop := (brun C 0 (-1) t).1 = C.length ∧ (brun C 0 (-1) t).2.1 = 2 ∧ (brun C 0 (-1) t).2.2.1 ≠ -1
theorem x_fault (h : bTX cs ln C) {rp rn rt : Int32} {t : Nat} (ht : rt = iv t) (ht8 : t ≤ 8) : fX4_firstFault cs ln rp rn rt = some (iv ((brun C 0 (-1) t).1 : Nat), iv (brun C 0 (-1) t).2.1, iv (brun C 0 (-1) t).2.2.1, iv (brun C 0 (-1) t).2.2.2) := by
  have h2 := h.2.1
  unfold fX4_firstFault fX2_start fX2_begin
  rw [bw_b2_s, bw_b2_s, ht]
  have := l_fault h C [] bw_fu 0 (-1) t rfl (by unfold bw_fu; omega) ⟨by omega, by omega, by omega, ht8⟩
  rw [List.length_nil, Nat.zero_add] at this
  exact this
theorem brun_ok : ∀ (C : List Int) (p : Nat) (v : Int) (t : Nat), bQok p v t → bQok (brun C p v t).2.1 (brun C p v t).2.2.1 (brun C p v t).2.2.2 ∧ (brun C p v t).1 ≤ C.length := by
  intro C
  induction C with
  | nil => intro p v t h; exact ⟨h, Nat.le_refl _⟩
  | cons c cs ih =>
    intro p v t h
    rw [brun_c]
    split
    · have := ih _ _ _ (bstep_ok (c := c) h)
      exact ⟨this.1, by rw [List.length_cons]; dsimp only; omega⟩
    · exact ⟨h, Nat.zero_le _⟩
theorem x_wholePlan (h : bTX cs ln C) {rp rn rt : Int32} {t : Nat} (ht : rt = iv t) (ht8 : t ≤ 8) : fX4_isWholePlan cs ln rp rn rt = some (if bwhole C t then 1 else 0, iv (brun C 0 (-1) t).2.1, iv (brun C 0 (-1) t).2.2.1, iv (brun C 0 (-1) t).2.2.2) := by
  have h2 := h.2.1
  obtain ⟨hq, hle⟩ := brun_ok C 0 (-1) t ⟨by omega, by omega, by omega, ht8⟩
  unfold fX4_isWholePlan jX4_isWholePlan_25 fX2_isAtEndOfPlan jX2_isAtEndOfPlan_20
  rw [x_fault h ht ht8, show ∀ (a b c d : Int32) (g : Int32 → Int32 → Int32 → Int32 → Option (Int32 × Int32 × Int32 × Int32)), bw_b4 (some (a, b, c, d)) g = g a b c d from fun _ _ _ _ _ => rfl, h.1, ite_iv (r32n (by omega)) (r32n (by omega))]
  rw [show (2 : Int32) = iv 2 from rfl, ite_iv (r32n (by omega)) (r32i (by omega) (by omega)), show (-1 : Int32) = iv (-1) from rfl, ite_iv (r32i (by omega) (by omega)) (r32i (by omega) (by omega))]
  by_cases c1 : (brun C 0 (-1) t).1 = C.length
  · rw [if_pos (by omega)]
    by_cases c2 : (brun C 0 (-1) t).2.1 = 2
    · rw [if_pos (by omega)]
      by_cases c3 : (brun C 0 (-1) t).2.2.1 = -1
      · rw [if_pos c3, bw_b1_s, if_pos rfl, if_neg (fun q => q.2.2 c3)]
      · rw [if_neg c3, bw_b1_s, if_neg (by decide), if_pos (show bwhole C t from ⟨c1, c2, c3⟩)]
    · rw [if_neg (by omega), bw_b1_s, if_pos rfl, if_neg (fun q => c2 q.2.1)]
  · rw [if_neg (by omega), if_neg (fun q => c1 q.1)]
end
