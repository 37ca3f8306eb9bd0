/- needs: 10_base 11_kit 12_refw 13_refs 14_refl 15_pay 16_order 17_charge 18_donow 19_donow2 20_tab 21_xpay 22_xqueue 23_xborrow 24_xdo 25_xdo2 30_refops 31_xops -/
/-! ===== what every state keeps ===== -/
/-- the delays of a project's tasks -/
def bdl (P : Nat → Nat → Int) (k : Nat) : Nat → Int
  | 0 => 0
  | n + 1 => bdl P k n + max 0 (P k (18 + n) - P k (10 + n))
theorem bdl_congr {P P' : Nat → Nat → Int} {k : Nat} : ∀ {n : Nat}, (∀ t, t < n → P k (18 + t) = P' k (18 + t) ∧ P k (10 + t) = P' k (10 + t)) → bdl P k n = bdl P' k n := by
  intro n
  induction n with
  | zero => intro _; rfl
  | succ n ih =>
    intro h
    unfold bdl
    rw [ih fun t ht => h t (by omega), (h n (by omega)).1, (h n (by omega)).2]
/-- a column's sum -/
def bsC (P : Nat → Nat → Int) (c : Nat) : Nat → Int
  | 0 => 0
  | n + 1 => bsC P c n + P n c
theorem bsC_congr {P P' : Nat → Nat → Int} {c : Nat} : ∀ {n : Nat}, (∀ j, j < n → P j c = P' j c) → bsC P c n = bsC P' c n := by
  intro n
  induction n with
  | zero => intro _; rfl
  | succ n ih =>
    intro h
    unfold bsC
    rw [ih fun t ht => h t (by omega), h n (by omega)]
theorem bsC_up {P : Nat → Nat → Int} {k c : Nat} {v : Int} : ∀ {n : Nat}, bsC (up2 P k c v) c n = bsC P c n + if k < n then v - P k c else 0 := by
  intro n
  induction n with
  | zero => simp [bsC]
  | succ n ih =>
    unfold bsC
    rw [ih]
    by_cases e : n = k
    · subst e; rw [up2_self, if_neg (by omega), if_pos (by omega)]; omega
    · rw [up2_k _ _ _ _ e]
      by_cases d : k < n
      · rw [if_pos d, if_pos (by omega)]; omega
      · rw [if_neg d, if_neg (by omega)]; omega
abbrev bIn (s : bSt) (f b : Int) : Prop := (bMi s f b) ∧ (∀ q ∈ s.2.2.2.1.map bkey, s.2.1 q.1 7 = 1 ∧ s.2.1 q.2 7 = 1) ∧ (∀ k, k < s.1 → 0 ≤ s.2.1 k 6 ∧ s.2.1 k 6 ≤ s.2.1 k 5 ∧ s.2.1 k 5 ≤ 8) ∧ (∀ k, k < s.1 → ∀ t : Nat, (t : Int) < s.2.1 k 5 → 1 ≤ s.2.1 k (10 + t) ∧ s.2.1 k (10 + t) ≤ 60) ∧ (∀ k, k < s.1 → ∀ t : Nat, (t : Int) < s.2.1 k 6 → 0 ≤ s.2.1 k (18 + t) ∧ s.2.1 k (18 + t) ≤ 300) ∧ (∀ k, k < s.1 → 0 ≤ s.2.1 k 4 ∧ s.2.1 k 4 ≤ bdl s.2.1 k (s.2.1 k 6).toNat) ∧ (bsC s.2.1 8 s.1 = s.2.2.2.2.2) ∧ (∀ k, s.1 ≤ k → s.2.2.1 k = 0 ∧ ∀ c, s.2.1 k c = 0)
theorem bIn.m {s : bSt} {f b : Int} (h__ : bIn s f b) : bMi s f b := h__.1
theorem bIn.opn {s : bSt} {f b : Int} (h__ : bIn s f b) : ∀ q ∈ s.2.2.2.1.map bkey, s.2.1 q.1 7 = 1 ∧ s.2.1 q.2 7 = 1 := h__.2.1
theorem bIn.mn {s : bSt} {f b : Int} (h__ : bIn s f b) : ∀ k, k < s.1 → 0 ≤ s.2.1 k 6 ∧ s.2.1 k 6 ≤ s.2.1 k 5 ∧ s.2.1 k 5 ≤ 8 := h__.2.2.1
theorem bIn.pl {s : bSt} {f b : Int} (h__ : bIn s f b) : ∀ k, k < s.1 → ∀ t : Nat, (t : Int) < s.2.1 k 5 → 1 ≤ s.2.1 k (10 + t) ∧ s.2.1 k (10 + t) ≤ 60 := h__.2.2.2.1
theorem bIn.dy {s : bSt} {f b : Int} (h__ : bIn s f b) : ∀ k, k < s.1 → ∀ t : Nat, (t : Int) < s.2.1 k 6 → 0 ≤ s.2.1 k (18 + t) ∧ s.2.1 k (18 + t) ≤ 300 := h__.2.2.2.2.1
theorem bIn.lt {s : bSt} {f b : Int} (h__ : bIn s f b) : ∀ k, k < s.1 → 0 ≤ s.2.1 k 4 ∧ s.2.1 k 4 ≤ bdl s.2.1 k (s.2.1 k 6).toNat := h__.2.2.2.2.2.1
theorem bIn.wn {s : bSt} {f b : Int} (h__ : bIn s f b) : bsC s.2.1 8 s.1 = s.2.2.2.2.2 := h__.2.2.2.2.2.2.1
theorem bIn.z0 {s : bSt} {f b : Int} (h__ : bIn s f b) : ∀ k, s.1 ≤ k → s.2.2.1 k = 0 ∧ ∀ c, s.2.1 k c = 0 := h__.2.2.2.2.2.2.2
section
variable {s : bSt} {f b : Int}
theorem bIn.bc (h : bIn s f b) {f' b' : Int} (hf : f ≤ f') (hb : b ≤ b') : bIn s f' b' := ⟨h.m.bc hf hb, h.opn, h.mn, h.pl, h.dy, h.lt, h.wn, h.z0⟩
theorem bLw.up {np : Nat} {L : List bLn} (h : bLw np L) : bLw (np + 1) L := ⟨fun q hq => by have := h.ab q hq; omega, h.nd⟩
theorem bIn.opd (h : bIn s f b) (h5 : s.1 ≤ 5) {r bf : Int} (hr : 1 ≤ r ∧ r ≤ 9) (hbf : 0 ≤ bf ∧ bf ≤ 99) : bIn (bopn s r bf) (f + 99) b := by
  have hz := h.z0 s.1 (Nat.le_refl _)
  have hP : ∀ j c, j < s.1 → (bopn s r bf).2.1 j c = s.2.1 j c := fun j c hj => by
    show up2 (up2 (up2 s.2.1 s.1 0 r) s.1 1 bf) s.1 7 1 j c = _
    rw [up2_k _ _ _ _ (by omega), up2_k _ _ _ _ (by omega), up2_k _ _ _ _ (by omega)]
  have hN : ∀ c, c ≠ 0 → c ≠ 1 → c ≠ 7 → (bopn s r bf).2.1 s.1 c = 0 := fun c q0 q1 q7 => by
    show up2 (up2 (up2 s.2.1 s.1 0 r) s.1 1 bf) s.1 7 1 s.1 c = _
    rw [up2_c _ _ _ _ q7, up2_c _ _ _ _ q1, up2_c _ _ _ _ q0]
    exact hz.2 c
  have hN0 : (bopn s r bf).2.1 s.1 0 = r := by
    show up2 (up2 (up2 s.2.1 s.1 0 r) s.1 1 bf) s.1 7 1 s.1 0 = _
    rw [up2_c _ _ _ _ (by omega), up2_c _ _ _ _ (by omega), up2_self]
  have hN1 : (bopn s r bf).2.1 s.1 1 = bf := by
    show up2 (up2 (up2 s.2.1 s.1 0 r) s.1 1 bf) s.1 7 1 s.1 1 = _
    rw [up2_c _ _ _ _ (by omega), up2_self]
  have hN7 : (bopn s r bf).2.1 s.1 7 = 1 := up2_self _ _ _ _
  have hF : ∀ j, j ≠ s.1 → (bopn s r bf).2.2.1 j = s.2.2.1 j := fun j hj => up1_ne _ _ hj
  have hFn : (bopn s r bf).2.2.1 s.1 = bf := up1_self _ _ _
  have hcase : ∀ j, j < (bopn s r bf).1 → j = s.1 ∨ j < s.1 := fun j hj => by
    have : j < s.1 + 1 := hj
    omega
  refine ⟨⟨by show s.1 + 1 ≤ 6; omega, h.m.w.up, h.m.pos, fun j hj => ?_, fun j hj => ?_, fun j hj => ?_, fun j hj => ?_, ?_, h.m.LS, h.m.s0, h.m.s1, h.m.s2⟩, fun q hq => ?_, fun j hj => ?_, fun j hj t ht => ?_, fun j hj t ht => ?_, fun j hj => ?_, ?_, fun j hj => ?_⟩
  · rcases hcase j hj with rfl | hj
    · right; exact hN7
    · rw [hP j 7 hj]; exact h.m.op j hj
  · rcases hcase j hj with rfl | hj
    · rw [hN0]; exact hr
    · rw [hP j 0 hj]; exact h.m.rk j hj
  · rcases hcase j hj with rfl | hj
    · rw [hN1]; exact hbf
    · rw [hP j 1 hj]; exact h.m.bf j hj
  · rcases hcase j hj with rfl | hj
    · rw [hFn]; exact hbf.1
    · rw [hF j (by omega)]; exact h.m.F0 j hj
  · show bsF (up1 s.2.2.1 s.1 bf) (s.1 + 1) ≤ f + 99
    rw [bsF_up, if_pos (by omega)]
    have := h.m.FS
    have e : bsF s.2.2.1 (s.1 + 1) = bsF s.2.2.1 s.1 + s.2.2.1 s.1 := rfl
    omega
  · have h1 := h.opn q hq
    have h2 := h.m.w.ab q hq
    rw [hP _ _ h2.1, hP _ _ h2.2.1]
    exact h1
  · rcases hcase j hj with rfl | hj
    · rw [hN 6 (by omega) (by omega) (by omega), hN 5 (by omega) (by omega) (by omega)]; omega
    · rw [hP _ _ hj, hP _ _ hj]; exact h.mn j hj
  · rcases hcase j hj with rfl | hj
    · rw [hN 5 (by omega) (by omega) (by omega)] at ht; omega
    · rw [hP _ _ hj] at ht ⊢; exact h.pl j hj t ht
  · rcases hcase j hj with rfl | hj
    · rw [hN 6 (by omega) (by omega) (by omega)] at ht; omega
    · rw [hP _ _ hj] at ht ⊢; exact h.dy j hj t ht
  · rcases hcase j hj with rfl | hj
    · rw [hN 4 (by omega) (by omega) (by omega), hN 6 (by omega) (by omega) (by omega)]
      exact ⟨Int.le_refl _, Int.le_refl _⟩
    · rw [hP _ _ hj, hP _ _ hj, bdl_congr (P' := s.2.1) fun t _ => ⟨hP _ _ hj, hP _ _ hj⟩]; exact h.lt j hj
  · show bsC (bopn s r bf).2.1 8 s.1 + (bopn s r bf).2.1 s.1 8 = s.2.2.2.2.2
    rw [hN 8 (by omega) (by omega) (by omega), bsC_congr (P' := s.2.1) fun j hj => hP j 8 hj, h.wn]
    omega
  · have hj' : s.1 + 1 ≤ j := hj
    have := h.z0 j (by omega)
    rw [hF j (by omega)]
    refine ⟨this.1, fun c => ?_⟩
    show up2 (up2 (up2 s.2.1 s.1 0 r) s.1 1 bf) s.1 7 1 j c = _
    rw [up2_k _ _ _ _ (by omega), up2_k _ _ _ _ (by omega), up2_k _ _ _ _ (by omega)]
    exact this.2 c
theorem bIn.plan (h : bIn s f b) {k : Nat} (hk : k < s.1) (h5 : s.2.1 k 5 < 8) {days : Int} (hd : 1 ≤ days ∧ days ≤ 60) : bIn (bpln s k days) f b := by
  have hmn := h.mn k hk
  generalize hm : (s.2.1 k 5).toNat = m
  have hm8 : m < 8 := by omega
  have hP : ∀ j c, (j ≠ k ∨ (c ≠ 5 ∧ c ≠ 10 + m ∧ c ≠ 18 + m)) → (bpln s k days).2.1 j c = s.2.1 j c := fun j c q => by
    show up2 (up2 (up2 s.2.1 k (10 + (s.2.1 k 5).toNat) days) k (18 + (s.2.1 k 5).toNat) (-1)) k 5 (s.2.1 k 5 + 1) j c = _
    rw [hm]
    unfold up2
    rw [if_neg (by omega), if_neg (by omega), if_neg (by omega)]
  have hP5 : (bpln s k days).2.1 k 5 = s.2.1 k 5 + 1 := up2_self _ _ _ _
  have hP10 : (bpln s k days).2.1 k (10 + m) = days := by
    show up2 (up2 (up2 s.2.1 k (10 + (s.2.1 k 5).toNat) days) k (18 + (s.2.1 k 5).toNat) (-1)) k 5 (s.2.1 k 5 + 1) k (10 + m) = _
    rw [hm, up2_c _ _ _ _ (by omega), up2_c _ _ _ _ (by omega), up2_self]
  refine ⟨⟨h.m.n6, h.m.w, h.m.pos, fun j hj => ?_, fun j hj => ?_, fun j hj => ?_, h.m.F0, h.m.FS, h.m.LS, h.m.s0, h.m.s1, h.m.s2⟩, fun q hq => ?_, fun j hj => ?_, fun j hj t ht => ?_, fun j hj t ht => ?_, fun j hj => ?_, ?_, fun j hj => ?_⟩
  · rw [hP j 7 (by omega)]; exact h.m.op j hj
  · rw [hP j 0 (by omega)]; exact h.m.rk j hj
  · rw [hP j 1 (by omega)]; exact h.m.bf j hj
  · rw [hP _ 7 (by omega), hP _ 7 (by omega)]; exact h.opn q hq
  · rw [hP j 6 (by omega)]
    by_cases e : j = k
    · subst e; rw [hP5]; omega
    · rw [hP j 5 (.inl e)]; exact h.mn j hj
  · by_cases e : j = k
    · subst e
      rw [hP5] at ht
      by_cases e2 : t = m
      · subst e2; rw [hP10]; exact hd
      · rw [hP _ _ (by omega)]; exact h.pl _ hj t (by omega)
    · rw [hP _ _ (.inl e)] at ht ⊢; exact h.pl j hj t ht
  · rw [hP j 6 (by omega)] at ht
    by_cases e : j = k
    · subst e
      rw [hP _ _ (by omega)]; exact h.dy _ hj t ht
    · rw [hP _ _ (.inl e)]; exact h.dy j hj t ht
  · rw [hP j 6 (by omega), hP j 4 (by omega)]
    have e : bdl (bpln s k days).2.1 j (s.2.1 j 6).toNat = bdl s.2.1 j (s.2.1 j 6).toNat := bdl_congr fun t ht => by
      by_cases e : j = k
      · subst e
        exact ⟨hP _ _ (by omega), hP _ _ (by omega)⟩
      · exact ⟨hP _ _ (.inl e), hP _ _ (.inl e)⟩
    rw [e]
    exact h.lt j hj
  · show bsC (bpln s k days).2.1 8 s.1 = s.2.2.2.2.2
    rw [bsC_congr (P' := s.2.1) fun j _ => hP j 8 (by omega)]
    exact h.wn
  · have hj' : s.1 ≤ j := hj
    have := h.z0 j hj'
    exact ⟨this.1, fun c => by rw [hP j c (by omega)]; exact this.2 c⟩
theorem bIn.rank (h : bIn s f b) {k : Nat} (hk : k < s.1) {r : Int} (hr : 1 ≤ r ∧ r ≤ 9) : bIn (s.1, up2 s.2.1 k 0 r, s.2.2.1, s.2.2.2.1, s.2.2.2.2.1, s.2.2.2.2.2) f b := by
  have hP : ∀ j c, c ≠ 0 → up2 s.2.1 k 0 r j c = s.2.1 j c := fun j c q => up2_c _ _ _ _ q
  refine ⟨⟨h.m.n6, h.m.w, h.m.pos, fun j hj => ?_, fun j hj => ?_, fun j hj => ?_, h.m.F0, h.m.FS, h.m.LS, h.m.s0, h.m.s1, h.m.s2⟩, fun q hq => ?_, fun j hj => ?_, fun j hj t ht => ?_, fun j hj t ht => ?_, fun j hj => ?_, ?_, fun j hj => ?_⟩ <;> dsimp only at *
  · rw [hP j 7 (by omega)]; exact h.m.op j hj
  · by_cases e : j = k
    · subst e; rw [up2_self]; exact hr
    · rw [up2_k _ _ _ _ e]; exact h.m.rk j hj
  · rw [hP j 1 (by omega)]; exact h.m.bf j hj
  · rw [hP _ 7 (by omega), hP _ 7 (by omega)]; exact h.opn q hq
  · rw [hP j 6 (by omega), hP j 5 (by omega)]; exact h.mn j hj
  · rw [hP j 5 (by omega)] at ht; rw [hP _ _ (by omega)]; exact h.pl j hj t ht
  · rw [hP j 6 (by omega)] at ht; rw [hP _ _ (by omega)]; exact h.dy j hj t ht
  · rw [hP j 6 (by omega), hP j 4 (by omega), bdl_congr (P' := s.2.1) fun t ht => ⟨hP _ _ (by omega), hP _ _ (by omega)⟩]; exact h.lt j hj
  · rw [bsC_congr (P' := s.2.1) fun j _ => hP j 8 (by omega)]; exact h.wn
  · have := h.z0 j hj
    exact ⟨this.1, fun c => by rw [up2_k _ _ _ _ (by omega)]; exact this.2 c⟩
theorem bIn.set (h : bIn s f b) {i : Nat} {v : Int} (h0 : i = 0 → 0 ≤ v ∧ v ≤ 2) (h1 : i ≠ 0 → 0 ≤ v ∧ v ≤ 100) : bIn (s.1, s.2.1, s.2.2.1, s.2.2.2.1, up1 s.2.2.2.2.1 i v, s.2.2.2.2.2) f b := by
  refine ⟨⟨h.m.n6, h.m.w, h.m.pos, h.m.op, h.m.rk, h.m.bf, h.m.F0, h.m.FS, h.m.LS, ?_, ?_, ?_⟩, h.opn, h.mn, h.pl, h.dy, h.lt, h.wn, h.z0⟩ <;> dsimp only
  · by_cases e : i = 0
    · subst e; rw [up1_self]; exact h0 rfl
    · rw [up1_ne _ _ (Ne.symm e)]; exact h.m.s0
  · by_cases e : i = 1
    · subst e; rw [up1_self]; exact h1 (by omega)
    · rw [up1_ne _ _ (Ne.symm e)]; exact h.m.s1
  · by_cases e : i = 2
    · subst e; rw [up1_self]; exact h1 (by omega)
    · rw [up1_ne _ _ (Ne.symm e)]; exact h.m.s2
end
/-! what lies outside is left as it is -/
theorem bpay_o {np b : Nat} (hb : b < np) {j : Nat} (hj : np ≤ j) : ∀ {L : List bLn} {left : Int} {F : Nat → Int}, (∀ e ∈ L, e.1 < np) → (bpay b L left F).2 j = F j := by
  intro L
  induction L with
  | nil => intro left F _; rfl
  | cons e es ih =>
    intro left F h
    have h0 := h e List.mem_cons_self
    have ht : ∀ e ∈ es, e.1 < np := fun e he => h e (List.mem_cons_of_mem _ he)
    have e1 : ∀ v, up1 (up1 F b (F b - v)) e.1 (up1 F b (F b - v) e.1 + v) j = F j := fun v => by rw [up1_ne _ _ (by omega), up1_ne _ _ (by omega)]
    rw [bpay_c]
    split
    · rfl
    · split
      · split
        · rw [ih ht, e1]
        · dsimp only; rw [ih ht, e1]
      · exact ih ht
theorem bcall_o {np k : Nat} {j : Nat} (hj : np ≤ j) : ∀ {L : List bLn} {left : Int} {F : Nat → Int}, (∀ e ∈ L, e.2.1 < np) → (bcall k L left F).2.1 j = F j := by
  intro L
  induction L with
  | nil => intro left F _; rfl
  | cons e es ih =>
    intro left F h
    have h0 := h e List.mem_cons_self
    have ht : ∀ e ∈ es, e.2.1 < np := fun e he => h e (List.mem_cons_of_mem _ he)
    have e1 : ∀ v, up1 F e.2.1 (F e.2.1 - v) j = F j := fun v => up1_ne _ _ (by omega)
    rw [bcall_c]
    split
    · rfl
    · split
      · split
        · rw [ih ht, e1]
        · dsimp only; rw [ih ht, e1]
      · exact ih ht
theorem bbor_o {np k : Nat} {c : Nat → Int} {j : Nat} (hj : np ≤ j) : ∀ {js : List Nat} {left : Int} {L : List bLn} {F : Nat → Int}, (∀ i ∈ js, i < np) → (bbor k c js left L F).2.1 j = F j := by
  intro js
  induction js with
  | nil => intro left L F _; rfl
  | cons i is ih =>
    intro left L F h
    have h0 := h i List.mem_cons_self
    rw [bbor_c]
    split
    · rfl
    · rw [ih fun x hx => h x (List.mem_cons_of_mem _ hx)]
      exact up1_ne _ _ (by omega)
theorem badd_k {a b : Nat} {x : Int} {L : List bLn} : ∀ q ∈ (badd a b x L).map bkey, q ∈ L.map bkey ∨ q = (a, b) := by
  induction L with
  | nil => intro q hq; right; simpa [badd, bkey] using hq
  | cons e es ih =>
    intro q hq
    rw [badd_c] at hq
    split at hq
    · left; exact hq
    · rw [List.map_cons] at hq ⊢
      rcases List.mem_cons.mp hq with rfl | hq
      · left; exact List.mem_cons_self
      · rcases ih q hq with h | h
        · left; exact List.mem_cons_of_mem _ h
        · right; exact h
theorem bbor_k {k : Nat} {c : Nat → Int} : ∀ {js : List Nat} {left : Int} {L : List bLn} {F : Nat → Int}, ∀ q ∈ (bbor k c js left L F).1.map bkey, q ∈ L.map bkey ∨ (q.1 ∈ js ∧ q.2 = k) := by
  intro js
  induction js with
  | nil => intro left L F q hq; exact .inl hq
  | cons i is ih =>
    intro left L F q hq
    rw [bbor_c] at hq
    split at hq
    · exact .inl hq
    · rcases ih q hq with h | h
      · rcases badd_k q h with h | h
        · exact .inl h
        · right; rw [h]; exact ⟨List.mem_cons_self, rfl⟩
      · exact .inr ⟨List.mem_cons_of_mem _ h.1, h.2⟩
