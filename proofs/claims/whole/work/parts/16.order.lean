/- needs: 10_base 11_kit 12_refw 13_refs 14_refl -/
/-! ===== the order of lenders ===== -/
theorem nodup_lt : ∀ (n : Nat) (l : List Nat), l.Nodup → (∀ x ∈ l, x < n) → l.length ≤ n := by
  intro n
  induction n with
  | zero =>
    intro l _ h
    cases l with
    | nil => exact Nat.le_refl _
    | cons x xs => exact absurd (h x List.mem_cons_self) (by omega)
  | succ n ih =>
    intro l hn h
    by_cases c : n ∈ l
    · have h1 := ih (l.erase n) (hn.erase n) (fun x hx => by
        have h2 := (List.Nodup.mem_erase_iff hn).mp hx
        have h3 := h x h2.2
        omega)
      rw [List.length_erase_of_mem c] at h1
      omega
    · have := ih l hn (fun x hx => by
        have h3 := h x hx
        have : x ≠ n := fun e => c (e ▸ hx)
        omega)
      omega
/-- ahead: the greater weight, or the lower number -/
def bah (w : Nat → Int) (x y : Nat) : Prop := w y < w x ∨ (w y = w x ∧ x < y)
def bins (w : Nat → Int) (j : Nat) : List Nat → List Nat
  | [] => [j]
  | x :: xs => if w j ≤ w x then x :: bins w j xs else j :: x :: xs
/-- the projects below n that may, in their order -/
def bord (w : Nat → Int) (c : Nat → Prop) [DecidablePred c] : Nat → List Nat
  | 0 => []
  | n + 1 => if c n then bins w n (bord w c n) else bord w c n
theorem bins_mem {w : Nat → Int} {j x : Nat} : ∀ {l : List Nat}, x ∈ bins w j l ↔ x = j ∨ x ∈ l := by
  intro l
  induction l with
  | nil => simp [bins]
  | cons y ys ih =>
    unfold bins
    split
    · simp only [List.mem_cons, ih]
      constructor
      · rintro (h | h | h)
        · exact .inr (.inl h)
        · exact .inl h
        · exact .inr (.inr h)
      · rintro (h | h | h)
        · exact .inr (.inl h)
        · exact .inl h
        · exact .inr (.inr h)
    · simp only [List.mem_cons]
theorem bins_pw {w : Nat → Int} {j : Nat} : ∀ {l : List Nat}, l.Pairwise (bah w) → (∀ x ∈ l, x < j) → (bins w j l).Pairwise (bah w) := by
  intro l
  induction l with
  | nil => intro _ _; exact List.pairwise_singleton _ _
  | cons y ys ih =>
    intro h1 h2
    have h3 := List.pairwise_cons.mp h1
    unfold bins
    split
    · rename_i c
      refine List.pairwise_cons.mpr ⟨fun x hx => ?_, ih h3.2 fun x hx => h2 x (List.mem_cons_of_mem _ hx)⟩
      rcases bins_mem.mp hx with rfl | hx
      · have := h2 y List.mem_cons_self
        unfold bah
        omega
      · exact h3.1 x hx
    · rename_i c
      refine List.pairwise_cons.mpr ⟨fun x hx => ?_, h1⟩
      rcases List.mem_cons.mp hx with rfl | hx
      · unfold bah; omega
      · have := h3.1 x hx
        unfold bah at this ⊢
        omega
theorem bord_mem {w : Nat → Int} {c : Nat → Prop} [DecidablePred c] {x : Nat} : ∀ {n : Nat}, x ∈ bord w c n ↔ x < n ∧ c x := by
  intro n
  induction n with
  | zero => simp [bord]
  | succ n ih =>
    unfold bord
    split
    · rename_i h
      rw [bins_mem, ih]
      constructor
      · rintro (rfl | ⟨h1, h2⟩)
        · exact ⟨by omega, h⟩
        · exact ⟨by omega, h2⟩
      · rintro ⟨h1, h2⟩
        by_cases e : x = n
        · exact .inl e
        · exact .inr ⟨by omega, h2⟩
    · rename_i h
      rw [ih]
      constructor
      · rintro ⟨h1, h2⟩
        exact ⟨by omega, h2⟩
      · rintro ⟨h1, h2⟩
        have : x ≠ n := fun e => h (e ▸ h2)
        exact ⟨by omega, h2⟩
theorem bord_pw {w : Nat → Int} {c : Nat → Prop} [DecidablePred c] : ∀ {n : Nat}, (bord w c n).Pairwise (bah w) := by
  intro n
  induction n with
  | zero => exact List.Pairwise.nil
  | succ n ih =>
    unfold bord
    split
    · exact bins_pw ih fun x hx => (bord_mem.mp hx).1
    · exact ih
theorem bah_irr {w : Nat → Int} {x : Nat} (h : bah w x x) : False := by unfold bah at h; omega
theorem bah_asy {w : Nat → Int} {x y : Nat} (h : bah w x y) (h2 : bah w y x) : False := by unfold bah at h h2; omega
theorem bpw_nodup {w : Nat → Int} {l : List Nat} (h : l.Pairwise (bah w)) : l.Nodup := by
  refine List.Pairwise.imp ?_ h
  intro a b hab e
  subst e
  exact bah_irr hab
/-- two rows in order with the same members are the same -/
theorem bpw_uniq {w : Nat → Int} : ∀ {l m : List Nat}, l.Pairwise (bah w) → m.Pairwise (bah w) → (∀ x, x ∈ l ↔ x ∈ m) → l = m := by
  intro l
  induction l with
  | nil =>
    intro m _ _ h
    cases m with
    | nil => rfl
    | cons y ys => exact absurd ((h y).mpr List.mem_cons_self) (by simp)
  | cons x xs ih =>
    intro m h1 h2 h
    cases m with
    | nil => exact absurd ((h x).mp List.mem_cons_self) (by simp)
    | cons y ys =>
      have h3 := List.pairwise_cons.mp h1
      have h4 := List.pairwise_cons.mp h2
      have e : x = y := by
        rcases List.mem_cons.mp ((h x).mp List.mem_cons_self) with e | e
        · exact e
        · rcases List.mem_cons.mp ((h y).mpr List.mem_cons_self) with e2 | e2
          · exact e2.symm
          · exact absurd (h3.1 y e2) (fun q => bah_asy q (h4.1 x e))
      subst e
      congr 1
      refine ih h3.2 h4.2 fun z => ?_
      constructor
      · intro hz
        rcases List.mem_cons.mp ((h z).mp (List.mem_cons_of_mem _ hz)) with e | e
        · subst e; exact absurd (h3.1 _ hz) bah_irr
        · exact e
      · intro hz
        rcases List.mem_cons.mp ((h z).mpr (List.mem_cons_of_mem _ hz)) with e | e
        · subst e; exact absurd (h4.1 _ hz) bah_irr
        · exact e
/-- the best of the projects from j on -/
def bscan (w : Nat → Int) (c : Nat → Prop) [DecidablePred c] : Nat → Nat → Int → Int
  | 0, _, best => best
  | d + 1, j, best => bscan w c d (j + 1) (if c j ∧ (best = -1 ∨ w best.toNat < w j) then (j : Int) else best)
theorem bscan_s {w : Nat → Int} {c : Nat → Prop} [DecidablePred c] : ∀ (d j : Nat) (best : Int), ((best = -1 ∧ ∀ x, x < j → ¬c x) ∨ (∃ b : Nat, best = b ∧ b < j ∧ c b ∧ ∀ x, x < j → c x → x ≠ b → bah w b x)) → ((bscan w c d j best = -1 ∧ ∀ x, x < j + d → ¬c x) ∨ (∃ b : Nat, bscan w c d j best = b ∧ b < j + d ∧ c b ∧ ∀ x, x < j + d → c x → x ≠ b → bah w b x)) := by
  intro d
  induction d with
  | zero => intro j best h; exact h
  | succ d ih =>
    intro j best h
    have e : j + (d + 1) = j + 1 + d := by omega
    unfold bscan
    rw [e]
    apply ih
    rcases h with ⟨h1, h2⟩ | ⟨b, h1, h2, h3, h4⟩
    · by_cases cj : c j
      · right
        refine ⟨j, by rw [if_pos ⟨cj, .inl h1⟩], by omega, cj, fun x hx cx hne => absurd cx (h2 x (by omega))⟩
      · left
        refine ⟨by rw [if_neg (fun q => cj q.1)]; exact h1, fun x hx => ?_⟩
        by_cases ex : x = j
        · subst ex; exact cj
        · exact h2 x (by omega)
    · right
      subst h1
      rw [Int.toNat_natCast]
      by_cases cj : c j ∧ w b < w j
      · refine ⟨j, by rw [if_pos ⟨cj.1, .inr cj.2⟩], by omega, cj.1, fun x hx cx hne => ?_⟩
        by_cases ex : x = b
        · subst ex; left; exact cj.2
        · have := h4 x (by omega) cx ex
          unfold bah at this ⊢
          omega
      · refine ⟨b, ?_, by omega, h3, fun x hx cx hne => ?_⟩
        · rw [if_neg]
          rintro ⟨q1, q2⟩
          rcases q2 with q2 | q2
          · omega
          · exact cj ⟨q1, q2⟩
        · by_cases ex : x = j
          · subst ex
            have : ¬ w b < w x := fun q => cj ⟨cx, q⟩
            unfold bah
            omega
          · exact h4 x (by omega) cx hne
/-! the taken ones as bits -/
theorem mk_bit : ∀ m : Fin 64, ∀ j : Fin 6, ((iv (m.val : Int) >>> (iv (j.val : Int) &&& 31)) &&& 1 = 0) ↔ m.val.testBit j.val = false := by decide +kernel
theorem mk_or : ∀ m : Fin 64, ∀ b : Fin 6, iv (m.val : Int) ||| (1 <<< (iv (b.val : Int) &&& 31)) = iv ((m.val ||| 1 <<< b.val : Nat) : Int) ∧ (m.val ||| 1 <<< b.val) < 64 ∧ ∀ j : Fin 6, (m.val ||| 1 <<< b.val).testBit j.val = (m.val.testBit j.val || j.val == b.val) := by decide +kernel
theorem mk_1 : ∀ b : Fin 6, (1 <<< (iv (b.val : Int) &&& 31) : Int32) = iv ((1 <<< b.val : Nat) : Int) ∧ (1 <<< b.val) < 64 ∧ ∀ j : Fin 6, (1 <<< b.val).testBit j.val = (j.val == b.val) := by decide +kernel
/-- the row of lenders says the list -/
abbrev bRO (od : Nat → Int32) (om : Int32) (l : List Nat) : Prop := (om = iv l.length) ∧ (∀ (i : Nat) (h : i < l.length), od i = iv l[i])
theorem bRO.m {od : Nat → Int32} {om : Int32} {l : List Nat} (h__ : bRO od om l) : om = iv l.length := h__.1
theorem bRO.o {od : Nat → Int32} {om : Int32} {l : List Nat} (h__ : bRO od om l) : ∀ (i : Nat) (h : i < l.length), od i = iv l[i] := h__.2
section
variable {z : Nat → Int32} {s : bSt}
theorem bme_r (hm : bSm s) (hlt : ∀ k, 0 ≤ blent k s.2.2.2.1 ∧ blent k s.2.2.2.1 ≤ 2000000000) {k : Nat} (hk : k < s.1) : r32 (bme s k) := by
  have h1 := hm.rk k hk
  have h2 := bcl_r hm hk
  have h3 := hlt k
  unfold bme
  split
  · exact r32i (by omega) (by omega)
  · split <;> exact r32i (by omega) (by omega)
/-- may lend to k and is not taken -/
abbrev bmay (s : bSt) (m : Nat) (j : Nat) : Prop := m.testBit j = false ∧ 0 < bcl s j
theorem l_scan (h : bRZ z s) (hm : bSm s) (hlt : ∀ k, 0 ≤ blent k s.2.2.2.1 ∧ blent k s.2.2.2.1 ≤ 2000000000) {k15 : bw_A1 → Int32 → Int32 → Int32 → Option (bw_A1 × Int32)} {od : bw_A1} {om : Int32} {m : Nat} (hm64 : m < 64) :
    ∀ (d n j : Nat) (best : Int), j + d = s.1 → d < n → (best = -1 ∨ ∃ b : Nat, best = b ∧ b < j) → lX6_layOrder_25 k15 z od om (iv m) n (iv best) (iv j) = if bscan (bme s) (bmay s m) d j best = -1 then k15 od om (iv m) 0 else jX6_layOrder_113 k15 z od om (iv m) (iv (bscan (bme s) (bmay s m) d j best)) 1 := by
  intro d
  have h6 := h.n6
  induction d with
  | zero =>
    intro n j best hj hn hb
    cases n with
    | zero => omega
    | succ n =>
      show bX6_layOrder_25 k15 (lX6_layOrder_25 k15 z od om (iv m) n) z od om (iv m) (iv best) (iv j) = _
      unfold bX6_layOrder_25
      have hb2 : -1 ≤ best ∧ best < 6 := by rcases hb with rfl | ⟨b, rfl, hb⟩ <;> omega
      rw [h.r0, bw_b1_s, ite_le (r32n (by omega)) (r32n (by omega)), if_pos (by omega)]
      rw [show (-1 : Int32) = iv (-1) from rfl, ite_iv (r32i (by omega) (by omega)) (r32i (by omega) (by omega))]
      show _ = if best = -1 then k15 od om (iv m) 0 else jX6_layOrder_113 k15 z od om (iv m) (iv best) 1
      by_cases c : best = -1
      · rw [if_pos c, if_pos c]
        rfl
      · rw [if_neg c, if_neg c]
  | succ d ih =>
    intro n j best hj hn hb
    cases n with
    | zero => omega
    | succ n =>
      have hb2 : -1 ≤ best ∧ best < 6 := by rcases hb with rfl | ⟨b, rfl, hb⟩ <;> omega
      have hjn : j < s.1 := by omega
      have ih1 := ih n (j + 1) best (by omega) (by omega) (by rcases hb with rfl | ⟨b, rfl, hb⟩; exact .inl rfl; exact .inr ⟨b, rfl, by omega⟩)
      have ih2 := ih n (j + 1) (j : Int) (by omega) (by omega) (.inr ⟨j, rfl, by omega⟩)
      show bX6_layOrder_25 k15 (lX6_layOrder_25 k15 z od om (iv m) n) z od om (iv m) (iv best) (iv j) = _
      unfold bX6_layOrder_25 jX6_layOrder_58 jX6_layOrder_59 jX6_layOrder_92 jX6_layOrder_87 jX6_layOrder_94
      simp only [bw_let_s]
      rw [h.r0, bw_b1_s, ite_le (r32n (by omega)) (r32n (by omega)), if_neg (by omega), iv_succ, ih1, ih2]
      rw [f_canLend h hm hjn, bw_b1_s, f_merit h hm hjn, bw_b1_s]
      have hbit := mk_bit ⟨m, hm64⟩ ⟨j, by omega⟩
      dsimp only at hbit
      have hc := bcl_r hm hjn
      show _ = if bscan (bme s) (bmay s m) d (j + 1) (if bmay s m j ∧ (best = -1 ∨ bme s best.toNat < bme s j) then (j : Int) else best) = -1 then _ else jX6_layOrder_113 k15 z od om (iv m) (iv (bscan (bme s) (bmay s m) d (j + 1) (if bmay s m j ∧ (best = -1 ∨ bme s best.toNat < bme s j) then (j : Int) else best))) 1
      rw [if_pos trivial, if_neg (show ¬(1 : Int32) = 0 by decide)]
      by_cases c1 : m.testBit j = false
      · rw [if_pos (hbit.mpr c1)]
        rw [show (0 : Int32) = iv 0 from rfl, ite_le (r32i (by omega) (by omega)) (r32i (by omega) (by omega))]
        by_cases c2 : bcl s j ≤ 0
        · rw [if_pos c2, if_neg (show ¬(bmay s m j ∧ (best = -1 ∨ bme s best.toNat < bme s j)) from fun q => absurd q.1.2 (by omega))]
        · rw [if_neg c2]
          have cm : bmay s m j := ⟨c1, by omega⟩
          rw [show (-1 : Int32) = iv (-1) from rfl, ite_iv (r32i (by omega) (by omega)) (r32i (by omega) (by omega))]
          by_cases c3 : best = -1
          · rw [if_pos c3, if_pos (show bmay s m j ∧ (best = -1 ∨ bme s best.toNat < bme s j) from ⟨cm, .inl c3⟩)]
          · rw [if_neg c3]
            rcases hb with hb | ⟨b, rfl, hb⟩
            · exact absurd hb c3
            · rw [f_merit h hm (by omega), bw_b1_s, ite_le (bme_r hm hlt hjn) (bme_r hm hlt (by omega)), Int.toNat_natCast]
              by_cases c4 : bme s j ≤ bme s b
              · rw [if_pos c4, if_neg (show ¬(bmay s m j ∧ ((b : Int) = -1 ∨ bme s b < bme s j)) from fun q => by rcases q.2 with q | q <;> omega)]
              · rw [if_neg c4, if_pos (show bmay s m j ∧ ((b : Int) = -1 ∨ bme s b < bme s j) from ⟨cm, .inr (by omega)⟩)]
      · rw [if_neg (fun q => c1 (hbit.mp q)), if_neg (show ¬(bmay s m j ∧ (best = -1 ∨ bme s best.toNat < bme s j)) from fun q => c1 q.1.1)]
/-- the lenders of k in their order -/
def bl4 (s : bSt) (k : Nat) : List Nat := bord (bme s) (fun j => j ≠ k ∧ 0 < bcl s j) s.1
theorem l_lay (h : bRZ z s) (hm : bSm s) (hlt : ∀ k, 0 ≤ blent k s.2.2.2.1 ∧ blent k s.2.2.2.1 ≤ 2000000000) {k : Nat} (hk : k < s.1) : ∀ (d n : Nat) (T : List Nat) (m : Nat) (od : bw_A1) (om : Int32), T.length + d = 7 → d < n → m < 64 → (∀ j, j < 6 → (m.testBit j = true ↔ j = k ∨ j ∈ T)) → bRO od om T → T.Pairwise (bah (bme s)) → (∀ x ∈ T, x < s.1 ∧ x ≠ k ∧ 0 < bcl s x) → (∀ t ∈ T, ∀ x, x < s.1 → x ≠ k → 0 < bcl s x → x ∉ T → bah (bme s) t x) → bOk (lX6_layOrder_15 z n od om (iv m) 1) fun r => bRO r.1 r.2 (bl4 s k) := by
  intro d
  have h6 := h.n6
  induction d with
  | zero =>
    intro n T m od om hT hn hm64 hbit hro hpw hin hah
    exact absurd (nodup_lt 6 T (bpw_nodup hpw) fun x hx => by have := hin x hx; omega) (by omega)
  | succ d ih =>
    intro n T m od om hT hn hm64 hbit hro hpw hin hah
    cases n with
    | zero => omega
    | succ n =>
      show bOk (bX6_layOrder_15 (lX6_layOrder_15 z n) z od om (iv m) 1) _
      unfold bX6_layOrder_15
      rw [if_neg (by decide)]
      have := l_scan h hm hlt (k15 := lX6_layOrder_15 z n) (od := od) (om := om) hm64 s.1 bw_fu 0 (-1) (by omega) (by unfold bw_fu; omega) (.inl rfl)
      rw [show (-1 : Int32) = iv (-1) from rfl, show (0 : Int32) = iv ((0 : Nat) : Int) from rfl, this]
      have hs := bscan_s (w := bme s) (c := bmay s m) s.1 0 (-1) (.inl ⟨rfl, fun x hx => absurd hx (by omega)⟩)
      rw [Nat.zero_add] at hs
      have hmay : ∀ x, x < s.1 → (bmay s m x ↔ (x ≠ k ∧ x ∉ T ∧ 0 < bcl s x)) := by
        intro x hx
        have hb := hbit x (by omega)
        unfold bmay
        constructor
        · rintro ⟨q1, q2⟩
          have q3 : ¬(x = k ∨ x ∈ T) := fun q => by rw [hb.mpr q] at q1; cases q1
          exact ⟨fun q => q3 (.inl q), fun q => q3 (.inr q), q2⟩
        · rintro ⟨q1, q2, q3⟩
          refine ⟨?_, q3⟩
          cases e : m.testBit x
          · rfl
          · rcases hb.mp e with q | q
            · exact absurd q q1
            · exact absurd q q2
      rcases hs with ⟨e1, e2⟩ | ⟨b, e1, e2, e3, e4⟩
      · rw [if_pos e1]
        cases n with
        | zero => omega
        | succ n =>
          show bOk (bX6_layOrder_15 (lX6_layOrder_15 z n) z od om (iv m) 0) _
          unfold bX6_layOrder_15
          rw [if_pos rfl]
          refine bOk_s ?_
          have : T = bl4 s k := by
            refine bpw_uniq hpw bord_pw fun x => ?_
            unfold bl4
            rw [bord_mem]
            constructor
            · intro hx
              exact hin x hx
            · rintro ⟨q1, q2⟩
              apply Classical.byContradiction
              intro q3
              exact e2 x q1 ((hmay x q1).mpr ⟨q2.1, q3, q2.2⟩)
          rw [← this]
          exact hro
      · rw [if_neg (by omega), e1]
        have hb := (hmay b e2).mp e3
        have hT6 : T.length < 6 := by
          have := nodup_lt 6 (b :: T) (List.nodup_cons.mpr ⟨hb.2.1, bpw_nodup hpw⟩) fun x hx => by
            rcases List.mem_cons.mp hx with rfl | hx
            · omega
            · have := hin x hx; omega
          rw [List.length_cons] at this
          omega
        have hor := mk_or ⟨m, hm64⟩ ⟨b, by omega⟩
        dsimp only at hor
        unfold jX6_layOrder_113 jX6_layOrder_146
        rw [if_neg (by decide), hro.m]
        have ew : bw_wr 6 od (iv T.length) (iv b) = some (upd od T.length (iv b)) := by
          rw [iv_wr (by omega) (by omega) (by omega)]
          rfl
        rw [ew, bw_b1_s]
        simp only [bw_let_s]
        rw [hor.1, iv_succ]
        refine ih n (T ++ [b]) _ _ _ (by rw [len_snoc']; omega) (by omega) hor.2.1 ?_ ⟨by rw [len_snoc'], ?_⟩ ?_ ?_ ?_
        · intro j hj
          have := hor.2.2 ⟨j, hj⟩
          dsimp only at this
          rw [this, Bool.or_eq_true, hbit j hj, List.mem_append, List.mem_singleton, beq_iff_eq]
          constructor
          · rintro ((q | q) | q)
            · exact .inl q
            · exact .inr (.inl q)
            · exact .inr (.inr q)
          · rintro (q | q | q)
            · exact .inl (.inl q)
            · exact .inl (.inr q)
            · exact .inr q
        · intro i hi
          rw [len_snoc'] at hi
          by_cases c : i < T.length
          · rw [upd_ne _ _ (by omega), List.getElem_append_left c]
            exact hro.o i c
          · have : i = T.length := by omega
            subst this
            rw [upd_self]
            simp
        · refine List.pairwise_append.mpr ⟨hpw, List.pairwise_singleton _ _, fun t ht x hx => ?_⟩
          rw [List.mem_singleton] at hx
          subst hx
          exact hah t ht _ e2 hb.1 hb.2.2 hb.2.1
        · intro x hx
          rcases List.mem_append.mp hx with hx | hx
          · exact hin x hx
          · rw [List.mem_singleton] at hx
            subst hx
            exact ⟨e2, hb.1, hb.2.2⟩
        · intro t ht x hx1 hx2 hx3 hx4
          rw [List.mem_append, List.mem_singleton] at hx4
          rcases List.mem_append.mp ht with ht | ht
          · exact hah t ht x hx1 hx2 hx3 fun q => hx4 (.inl q)
          · rw [List.mem_singleton] at ht
            subst ht
            exact e4 x hx1 ((hmay x hx1).mpr ⟨hx2, fun q => hx4 (.inl q), hx3⟩) fun q => hx4 (.inr q)
/-- the lenders of k: none of a project that is closed -/
def bl5 (s : bSt) (k : Nat) : List Nat := if s.2.1 k 7 = 1 then bl4 s k else []
theorem f_layOrder (h : bRZ z s) (hm : bSm s) (hlt : ∀ k, 0 ≤ blent k s.2.2.2.1 ∧ blent k s.2.2.2.1 ≤ 2000000000) {k : Nat} (hk : k < s.1) {od : bw_A1} {om : Int32} : bOk (fX6_layOrder z od om (iv k)) fun r => bRO r.1 r.2 (bl5 s k) := by
  have h6 := h.n6
  have h1 := mk_1 ⟨k, by omega⟩
  dsimp only at h1
  unfold fX6_layOrder
  rw [bw_let_s, f_isOpen h hk (hm.op k hk), bw_b1_s, h1.1]
  have hro : bRO od 0 [] := ⟨rfl, fun i hi => absurd hi (by simp)⟩
  unfold bl5
  by_cases c : s.2.1 k 7 = 1
  · rw [if_pos c, if_pos c]
    refine l_lay h hm hlt hk 7 bw_fu [] _ od 0 rfl (by unfold bw_fu; omega) h1.2.1 (fun j hj => ?_) hro List.Pairwise.nil (fun x hx => by cases hx) (fun x hx => by cases hx)
    have := h1.2.2 ⟨j, hj⟩
    dsimp only at this
    rw [this, beq_iff_eq]
    simp
  · rw [if_neg c, if_neg c]
    show bOk (bX6_layOrder_15 (lX6_layOrder_15 z 4999) z od 0 _ 0) _
    unfold bX6_layOrder_15
    rw [if_pos rfl]
    exact bOk_s hro
end
