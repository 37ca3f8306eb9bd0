/- needs: 10_base 11_kit 12_refw 13_refs 14_refl 15_pay 16_order 17_charge 18_donow 19_donow2 20_tab 21_xpay 22_xqueue 23_xborrow 24_xdo 25_xdo2 30_refops 31_xops 33_inv -/
/-! ===== what every state keeps: a task done, lent, paid, closed ===== -/
section
variable {s : bSt} {f b : Int} {k : Nat} {days : Int}
theorem bl5_open {s : bSt} {k j : Nat} (h : j ∈ bl5 s k) : s.2.1 j 7 = 1 := by
  have h1 := (bl5_in h).2.2
  unfold bcl at h1
  split at h1
  · rename_i c; exact c.1
  · omega
theorem bdA_keys : ∀ q ∈ (bdA s k days).2.2.2.1.map bkey, q ∈ s.2.2.2.1.map bkey ∨ (q.1 < s.1 ∧ s.2.1 q.1 7 = 1 ∧ q.2 = k) := by
  intro q hq
  unfold bdA at hq
  split at hq
  · exact .inl (bpay_s.subset hq)
  · rcases bbor_k q hq with h | h
    · exact .inl (bcall_s.subset h)
    · right
      have h1 := bl5_in h.1
      have h2 := bl5_open h.1
      refine ⟨h1.1, ?_, h.2⟩
      rw [← bd0_P (s := s) (k := k) (d := days) q.1 7 (by omega)]
      exact h2
theorem bdA_F (h : bMi s f b) (hk : k < s.1) {j : Nat} (hj : s.1 ≤ j) : (bdA s k days).2.2.1 j = s.2.2.1 j := by
  have hjk : j ≠ k := by omega
  unfold bdA
  split
  · unfold bdE bpayA
    dsimp only
    exact (bpay_o (L := (bd0 s k days).2.2.2.1) hk hj fun e he => (h.w.e he).1).trans (up1_ne _ _ hjk)
  · show (bbor k _ (bl5 (bch2 (bd0 s k days) k (bby s k days)) k) _ _ (bch2 (bd0 s k days) k (bby s k days)).2.2.1).2.1 j = _
    refine (bbor_o (np := s.1) hj fun i hi => ?_).trans ?_
    · exact (bl5_in hi).1
    · show (bcall k s.2.2.2.1 _ (bch1 (bd0 s k days) k (bby s k days)).2.2.1).2.1 j = _
      exact (bcall_o (L := s.2.2.2.1) hj fun e he => (h.w.e he).2.1).trans (up1_ne _ _ hjk)
theorem bdA_P2 (j c : Nat) (h3 : c ≠ 3) (h4 : c ≠ 4) : (bdA s k days).2.1 j c = (bd0 s k days).2.1 j c := by
  unfold bdA
  split
  · exact bdE_P _ _ h3
  · exact bchS_P _ _ h3 h4
theorem bdA_P4 : (bdA s k days).2.1 k 4 = s.2.1 k 4 + bdla s k days := by
  unfold bdA bdla
  split
  · rw [bdE_P _ _ (by omega), bd0_P _ _ (by omega)]; omega
  · show up2 (up2 (bd0 s k days).2.1 k 3 _) k 4 _ k 4 = _
    rw [up2_self, bd0_P _ _ (by omega)]
theorem bdA_Pk (j c : Nat) (h : j ≠ k) : (bdA s k days).2.1 j c = s.2.1 j c := by
  unfold bdA
  split
  · show up2 (up2 s.2.1 k (18 + btn s k) days) k 3 _ j c = _
    rw [up2_k _ _ _ _ h, up2_k _ _ _ _ h]
  · show up2 (up2 (up2 s.2.1 k (18 + btn s k) days) k 3 _) k 4 _ j c = _
    rw [up2_k _ _ _ _ h, up2_k _ _ _ _ h, up2_k _ _ _ _ h]
theorem bdB_Pk (j c : Nat) (h : j ≠ k) : (bdB s k days).2.1 j c = s.2.1 j c := by
  show bdP (bdA s k days).2.1 k (btn s k) _ _ _ _ _ j c = _
  unfold bdP
  rw [up2_k _ _ _ _ h, up2_k _ _ _ _ h, up2_k _ _ _ _ h, up2_k _ _ _ _ h, up2_k _ _ _ _ h]
  exact bdA_Pk j c h
theorem bdB_Pc (c : Nat) (h6 : c ≠ 6) (hc : c < 26) (h3 : c ≠ 3) (h4 : c ≠ 4) : (bdB s k days).2.1 k c = if c = 18 + btn s k then days else s.2.1 k c := by
  show bdP (bdA s k days).2.1 k (btn s k) _ _ _ _ _ k c = _
  rw [bdP_c _ _ _ _ _ _ _ _ _ _ h6 hc, bdA_P2 _ _ h3 h4]
  show up2 s.2.1 k (18 + btn s k) days k c = _
  unfold up2
  by_cases e : c = 18 + btn s k
  · rw [if_pos ⟨rfl, e⟩, if_pos e]
  · rw [if_neg (fun q => e q.2), if_neg e]
theorem bdB_P4 : (bdB s k days).2.1 k 4 = s.2.1 k 4 + bdla s k days := by
  show bdP (bdA s k days).2.1 k (btn s k) _ _ _ _ _ k 4 = _
  rw [bdP_c _ _ _ _ _ _ _ _ _ _ (by omega) (by omega), bdA_P4]
theorem bdB_P6 : (bdB s k days).2.1 k 6 = s.2.1 k 6 + 1 := up2_self _ _ _ _
theorem bdo_P : (bdo s k days).2.1 = (bdB s k days).2.1 := by unfold bdo; split <;> rfl
theorem bdo_np : (bdo s k days).1 = s.1 := by
  have : (bdB s k days).1 = s.1 := bdA_np
  unfold bdo
  split <;> exact this
theorem bdo_off : (bdo s k days).2.2.2.2.2 = s.2.2.2.2.2 := by
  have : (bdB s k days).2.2.2.2.2 = s.2.2.2.2.2 := by
    show (bdA s k days).2.2.2.2.2 = s.2.2.2.2.2
    unfold bdA
    split <;> rfl
  unfold bdo
  split <;> exact this
theorem bdo_keys : ∀ q ∈ (bdo s k days).2.2.2.1.map bkey, q ∈ s.2.2.2.1.map bkey ∨ (q.1 < s.1 ∧ s.2.1 q.1 7 = 1 ∧ q.2 = k) := by
  intro q hq
  unfold bdo at hq
  split at hq
  · exact bdA_keys q (bpay_s.subset hq)
  · exact bdA_keys q hq
theorem bdo_F (h : bMi s f b) (hf : f ≤ 900000) (hy : -60 ≤ bby s k days) (hk : k < s.1) {j : Nat} (hj : s.1 ≤ j) : (bdo s k days).2.2.1 j = s.2.2.1 j := by
  have hB := h.dB hf hk hy
  have hnp : (bdB s k days).1 = s.1 := bdA_np
  unfold bdo
  split
  · show (bpay k (bdB s k days).2.2.2.1 _ (bdB s k days).2.2.1).2 j = _
    rw [bpay_o hk hj fun e he => by have := (hB.w.e he).1; rw [hnp] at this; exact this]
    exact bdA_F h hk hj
  · exact bdA_F h hk hj
theorem bdla_r (h : bMi s f b) (hf : f ≤ 900000) (hk : k < s.1) : 0 ≤ bdla s k days ∧ bdla s k days ≤ max 0 (days - s.2.1 k (10 + btn s k)) := by
  unfold bdla
  split
  · omega
  · rename_i c
    have h0 := (h.d0 (k := k) (days := days)).c3 (by omega) hk (delay := bby s k days) (by omega)
    have h2 := (h.d0 (k := k) (days := days)).c2 hk (delay := bby s k days) (by omega)
    have hF := (h.d0 (k := k) (days := days)).F0 k hk
    have hv : 0 ≤ bowd (bd0 s k days) k (bby s k days) := by unfold bowd; omega
    have e : bby s k days = days - s.2.1 k (10 + btn s k) := rfl
    omega
theorem bIn.do (h : bIn s f b) (hf : f ≤ 900000) (hk : k < s.1) (ho : s.2.1 k 7 = 1) (h65 : s.2.1 k 6 < s.2.1 k 5) (hd : 0 ≤ days ∧ days ≤ 300) : bIn (bdo s k days) (f + 60) (b + f) := by
  have hmn := h.mn k hk
  have ht8 : btn s k < 8 := by unfold btn; omega
  have e6 : s.2.1 k 6 = btn s k := by unfold btn; omega
  have hp := h.pl k hk (btn s k) (by omega)
  have hy : -60 ≤ bby s k days := by unfold bby; omega
  have hM := h.m.do hf hk hy (days := days)
  have hla := bdla_r h.m hf hk (days := days)
  have hP7 : ∀ j, (bdB s k days).2.1 j 7 = s.2.1 j 7 := fun j => by
    by_cases e : j = k
    · subst e; rw [bdB_Pc _ (by omega) (by omega) (by omega) (by omega), if_neg (by omega)]
    · exact bdB_Pk j 7 e
  have hP8 : ∀ j, (bdB s k days).2.1 j 8 = s.2.1 j 8 := fun j => by
    by_cases e : j = k
    · subst e; rw [bdB_Pc _ (by omega) (by omega) (by omega) (by omega), if_neg (by omega)]
    · exact bdB_Pk j 8 e
  have hP5 : (bdB s k days).2.1 k 5 = s.2.1 k 5 := by rw [bdB_Pc _ (by omega) (by omega) (by omega) (by omega), if_neg (by omega)]
  refine ⟨hM, fun q hq => ?_, fun j hj => ?_, fun j hj t ht => ?_, fun j hj t ht => ?_, fun j hj => ?_, ?_, fun j hj => ?_⟩
  · rw [bdo_P, hP7, hP7]
    rcases bdo_keys q hq with h1 | h1
    · exact h.opn q h1
    · rw [h1.2.2]; exact ⟨h1.2.1, ho⟩
  · rw [bdo_np] at hj
    rw [bdo_P]
    by_cases e : j = k
    · subst e; rw [bdB_P6, hP5]; omega
    · rw [bdB_Pk _ _ e, bdB_Pk _ _ e]; exact h.mn j hj
  · rw [bdo_np] at hj
    rw [bdo_P] at ht ⊢
    by_cases e : j = k
    · subst e
      rw [hP5] at ht
      rw [bdB_Pc _ (by omega) (by omega) (by omega) (by omega), if_neg (by omega)]
      exact h.pl _ hj t ht
    · rw [bdB_Pk _ _ e] at ht ⊢; exact h.pl j hj t ht
  · rw [bdo_np] at hj
    rw [bdo_P] at ht ⊢
    by_cases e : j = k
    · subst e
      rw [bdB_P6] at ht
      rw [bdB_Pc _ (by omega) (by omega) (by omega) (by omega)]
      by_cases e2 : t = btn s j
      · subst e2; rw [if_pos rfl]; exact hd
      · rw [if_neg (by omega)]; exact h.dy _ hj t (by omega)
    · rw [bdB_Pk _ _ e] at ht ⊢; exact h.dy j hj t ht
  · rw [bdo_np] at hj
    rw [bdo_P]
    by_cases e : j = k
    · subst e
      have h4 := h.lt j hj
      have et : (s.2.1 j 6).toNat = btn s j := rfl
      rw [bdB_P4, bdB_P6, show (s.2.1 j 6 + 1).toNat = btn s j + 1 by omega]
      show 0 ≤ _ ∧ _ ≤ bdl (bdB s j days).2.1 j (btn s j) + max 0 ((bdB s j days).2.1 j (18 + btn s j) - (bdB s j days).2.1 j (10 + btn s j))
      rw [bdl_congr (P' := s.2.1) fun t ht => ⟨by rw [bdB_Pc _ (by omega) (by omega) (by omega) (by omega), if_neg (by omega)], by rw [bdB_Pc _ (by omega) (by omega) (by omega) (by omega), if_neg (by omega)]⟩]
      rw [bdB_Pc (18 + btn s j) (by omega) (by omega) (by omega) (by omega), if_pos rfl, bdB_Pc (10 + btn s j) (by omega) (by omega) (by omega) (by omega), if_neg (by omega)]
      rw [et] at h4
      omega
    · rw [bdB_Pk _ _ e, bdB_Pk _ _ e, bdl_congr (P' := s.2.1) fun t ht => ⟨bdB_Pk _ _ e, bdB_Pk _ _ e⟩]
      exact h.lt j hj
  · rw [bdo_np, bdo_P, bdo_off, bsC_congr (P' := s.2.1) fun j _ => hP8 j]
    exact h.wn
  · rw [bdo_np] at hj
    have := h.z0 j hj
    rw [bdo_F h.m hf hy hk hj, bdo_P]
    exact ⟨this.1, fun c => by rw [bdB_Pk _ _ (by omega)]; exact this.2 c⟩
/-- days moved from one project to another -/
def bmv (F : Nat → Int) (p q : Nat) (x : Int) : Nat → Int := up1 (up1 F p (F p - x)) q (up1 F p (F p - x) q + x)
theorem bmv_s {F : Nat → Int} {np p q : Nat} {x : Int} (hp : p < np) (hq : q < np) (hpq : p ≠ q) (hF : ∀ j, j < np → 0 ≤ F j) (hx : 0 ≤ x ∧ x ≤ F p) : (∀ j, j < np → 0 ≤ bmv F p q x j) ∧ bsF (bmv F p q x) np = bsF F np ∧ ∀ j, np ≤ j → bmv F p q x j = F j := by
  have hFq := hF q hq
  have e1 : up1 F p (F p - x) q = F q := up1_ne _ _ (Ne.symm hpq)
  unfold bmv
  refine ⟨fun j hj => ?_, ?_, fun j hj => ?_⟩
  · have := hF j hj
    rw [e1]
    by_cases ca : j = q
    · subst ca; rw [up1_self]; omega
    · rw [up1_ne _ _ ca]
      by_cases cb : j = p
      · subst cb; rw [up1_self]; omega
      · rw [up1_ne _ _ cb]; exact this
  · rw [bsF_up, bsF_up, if_pos hp, if_pos hq]; omega
  · rw [up1_ne _ _ (by omega), up1_ne _ _ (by omega)]
theorem bIn.fl (h : bIn s f b) {L : List bLn} {F : Nat → Int} {f' b' : Int} (hm : bMi (s.1, s.2.1, F, L, s.2.2.2.2.1, s.2.2.2.2.2) f' b') (hk : ∀ q ∈ L.map bkey, q ∈ s.2.2.2.1.map bkey ∨ (s.2.1 q.1 7 = 1 ∧ s.2.1 q.2 7 = 1)) (hF : ∀ j, s.1 ≤ j → F j = s.2.2.1 j) : bIn (s.1, s.2.1, F, L, s.2.2.2.2.1, s.2.2.2.2.2) f' b' :=
  ⟨hm, fun q hq => by
    rcases hk q hq with h1 | h1
    · exact h.opn q h1
    · exact h1, h.mn, h.pl, h.dy, h.lt, h.wn, fun j hj => ⟨by rw [← (h.z0 j hj).1]; exact hF j hj, (h.z0 j hj).2⟩⟩
/-- lent -/
def blnd (s : bSt) (p q : Nat) (x : Int) : bSt := (s.1, s.2.1, bmv s.2.2.1 p q x, badd p q x s.2.2.2.1, s.2.2.2.2.1, s.2.2.2.2.2)
theorem bIn.lend (h : bIn s f b) {p q : Nat} (hp : p < s.1) (hq : q < s.1) (hpq : p ≠ q) (hop : s.2.1 p 7 = 1) (hoq : s.2.1 q 7 = 1) {x : Int} (hx : 1 ≤ x ∧ x ≤ 99 ∧ x ≤ s.2.2.1 p) : bIn (blnd s p q x) f (b + 99) := by
  obtain ⟨i1, i2, i3⟩ := bmv_s hp hq hpq h.m.F0 (x := x) (by omega)
  refine h.fl (h.m.fl (badd_w h.m.w hp hq hpq) (badd_pos (by omega) h.m.pos) i1 (by rw [i2]; exact h.m.FS) (by rw [badd_sum]; have := h.m.LS; omega)) (fun k hk => ?_) i3
  rcases badd_k k hk with h1 | h1
  · exact .inl h1
  · right; rw [h1]; exact ⟨hop, hoq⟩
/-- a loan cut -/
def bctL (p q : Nat) (x : Int) : List bLn → List bLn
  | [] => []
  | e :: es => if e.1 = p ∧ e.2.1 = q then (if e.2.2 - x = 0 then es else (e.1, e.2.1, e.2.2 - x) :: es) else e :: bctL p q x es
theorem bctL_c (p q : Nat) (x : Int) (e : bLn) (es : List bLn) : bctL p q x (e :: es) = if e.1 = p ∧ e.2.1 = q then (if e.2.2 - x = 0 then es else (e.1, e.2.1, e.2.2 - x) :: es) else e :: bctL p q x es := rfl
theorem bctL_some {p q : Nat} {x : Int} : ∀ {pre suf : List bLn} {e : bLn}, (∀ y ∈ pre, ¬(y.1 = p ∧ y.2.1 = q)) → e.1 = p → e.2.1 = q → bctL p q x (pre ++ e :: suf) = bcut pre e suf (e.2.2 - x) := by
  intro pre
  induction pre with
  | nil =>
    intro suf e _ h1 h2
    rw [List.nil_append, bctL_c, if_pos ⟨h1, h2⟩]
    rfl
  | cons y ys ih =>
    intro suf e hl h1 h2
    rw [List.cons_append, bctL_c, if_neg (hl y List.mem_cons_self), ih (fun y' hy => hl y' (List.mem_cons_of_mem _ hy)) h1 h2]
    unfold bcut
    split <;> rfl
theorem bctL_s {p q : Nat} {x : Int} : ∀ {L : List bLn}, ((bctL p q x L).map bkey).Sublist (L.map bkey) := by
  intro L
  induction L with
  | nil => exact List.Sublist.refl _
  | cons e es ih =>
    rw [bctL_c]
    split
    · split
      · exact List.Sublist.cons _ (List.Sublist.refl _)
      · exact List.Sublist.refl _
    · exact List.Sublist.cons_cons _ ih
theorem bctL_p {p q : Nat} {x : Int} (hx : 0 ≤ x) : ∀ {L : List bLn}, (∀ e ∈ L, 0 < e.2.2) → x ≤ bow p q L → (∀ e ∈ bctL p q x L, 0 < e.2.2) ∧ bsum (bctL p q x L) ≤ bsum L := by
  intro L
  induction L with
  | nil => intro h _; exact ⟨h, Int.le_refl _⟩
  | cons e es ih =>
    intro h hb
    have h0 := h e List.mem_cons_self
    have ht : ∀ e ∈ es, 0 < e.2.2 := fun e he => h e (List.mem_cons_of_mem _ he)
    rw [bow_c] at hb
    rw [bctL_c]
    by_cases c : e.1 = p ∧ e.2.1 = q
    · rw [if_pos c] at hb ⊢
      split
      · exact ⟨ht, by rw [bsum_c]; omega⟩
      · refine ⟨fun y hy => ?_, by rw [bsum_c, bsum_c]; dsimp only; omega⟩
        rcases List.mem_cons.mp hy with rfl | hy
        · dsimp only; omega
        · exact ht y hy
    · rw [if_neg c] at hb ⊢
      have := ih ht hb
      refine ⟨fun y hy => ?_, by rw [bsum_c, bsum_c]; omega⟩
      rcases List.mem_cons.mp hy with rfl | hy
      · exact h0
      · exact this.1 y hy
/-- paid back: q pays p -/
def bpbk (s : bSt) (q p : Nat) (x : Int) : bSt := (s.1, s.2.1, bmv s.2.2.1 q p x, bctL p q x s.2.2.2.1, s.2.2.2.2.1, s.2.2.2.2.2)
theorem bIn.payBack (h : bIn s f b) {p q : Nat} (hp : p < s.1) (hq : q < s.1) (hpq : p ≠ q) {x : Int} (hx : 1 ≤ x ∧ x ≤ bow p q s.2.2.2.1 ∧ x ≤ s.2.2.1 q) : bIn (bpbk s q p x) f b := by
  obtain ⟨i1, i2, i3⟩ := bmv_s hq hp (Ne.symm hpq) h.m.F0 (x := x) (by omega)
  have h1 := bctL_p (p := p) (q := q) (x := x) (by omega) h.m.pos hx.2.1
  exact h.fl (h.m.fl (h.m.w.sub bctL_s) h1.1 i1 (by rw [i2]; exact h.m.FS) (by have := h.m.LS; omega)) (fun k hk => .inl (bctL_s.subset hk)) i3
/-- closed -/
def bcls (s : bSt) (k : Nat) : bSt := ((bpayA s k (s.2.2.1 k)).1, up2 (bwo k (bpayA s k (s.2.2.1 k)).2.2.2.1 s.2.1).2.1 k 7 0, (bpayA s k (s.2.2.1 k)).2.2.1, (bwo k (bpayA s k (s.2.2.1 k)).2.2.2.1 s.2.1).1, (bpayA s k (s.2.2.1 k)).2.2.2.2.1, s.2.2.2.2.2 + (bwo k (bpayA s k (s.2.2.1 k)).2.2.2.1 s.2.1).2.2)
theorem bwo_s {k : Nat} : ∀ {L : List bLn} {P : Nat → Nat → Int}, ((bwo k L P).1).Sublist L ∧ ∀ e ∈ (bwo k L P).1, e.1 ≠ k ∧ e.2.1 ≠ k := by
  intro L
  induction L with
  | nil => intro P; exact ⟨List.Sublist.refl _, fun e he => by cases he⟩
  | cons e es ih =>
    intro P
    rw [bwo_c]
    split
    · exact ⟨List.Sublist.cons _ (ih).1, (ih).2⟩
    · rename_i c
      refine ⟨List.Sublist.cons_cons _ (ih).1, fun y hy => ?_⟩
      rcases List.mem_cons.mp hy with rfl | hy
      · exact ⟨fun q => c (.inl q), fun q => c (.inr q)⟩
      · exact (ih).2 y hy
theorem bwo_P {k np : Nat} : ∀ {L : List bLn} {P : Nat → Nat → Int}, (∀ e ∈ L, e.1 < np ∧ e.2.1 < np) → (∀ j c, (c ≠ 8 ∧ c ≠ 9) ∨ np ≤ j → (bwo k L P).2.1 j c = P j c) ∧ bsC (bwo k L P).2.1 8 np = bsC P 8 np + (bwo k L P).2.2 := by
  intro L
  induction L with
  | nil => intro P _; exact ⟨fun j c _ => rfl, by show bsC P 8 np = bsC P 8 np + 0; omega⟩
  | cons e es ih =>
    intro P h
    have h0 := h e List.mem_cons_self
    have ht : ∀ e ∈ es, e.1 < np ∧ e.2.1 < np := fun e he => h e (List.mem_cons_of_mem _ he)
    rw [bwo_c]
    split
    · have h1 := ih (P := up2 (up2 P e.1 9 (P e.1 9 + e.2.2)) e.2.1 8 (up2 P e.1 9 (P e.1 9 + e.2.2) e.2.1 8 + e.2.2)) ht
      dsimp only
      refine ⟨fun j c q => ?_, ?_⟩
      · rw [h1.1 j c q]
        unfold up2
        rw [if_neg (by omega), if_neg (by omega)]
      · rw [h1.2, bsC_up, if_pos h0.2, bsC_congr (P' := P) fun j _ => up2_c _ _ _ _ (by omega)]
        omega
    · exact ih ht
theorem bsum_sub : ∀ {L L' : List bLn}, L'.Sublist L → (∀ e ∈ L, 0 < e.2.2) → bsum L' ≤ bsum L := by
  intro L L' h
  induction h with
  | slnil => intro _; exact Int.le_refl _
  | cons e _ ih =>
    intro h
    have h0 := h e List.mem_cons_self
    have := ih fun y hy => h y (List.mem_cons_of_mem _ hy)
    rw [bsum_c]; omega
  | cons_cons e _ ih =>
    intro h
    have := ih fun y hy => h y (List.mem_cons_of_mem _ hy)
    rw [bsum_c, bsum_c]; omega
theorem bIn.close (h : bIn s f b) (hk : k < s.1) : bIn (bcls s k) f b := by
  have hp := h.m.pay hk (s.2.2.1 k)
  have hw := bwo_s (k := k) (L := (bpayA s k (s.2.2.1 k)).2.2.2.1) (P := s.2.1)
  have hP := bwo_P (k := k) (np := s.1) (L := (bpayA s k (s.2.2.1 k)).2.2.2.1) (P := s.2.1) fun e he => ⟨(hp.w.e he).1, (hp.w.e he).2.1⟩
  have hPc : ∀ j c, c ≠ 8 → c ≠ 9 → c ≠ 7 → (bcls s k).2.1 j c = s.2.1 j c := fun j c q8 q9 q7 => by
    show up2 _ k 7 0 j c = _
    rw [up2_c _ _ _ _ q7]
    exact hP.1 j c (.inl ⟨q8, q9⟩)
  have hP7 : ∀ j, (bcls s k).2.1 j 7 = if j = k then 0 else s.2.1 j 7 := fun j => by
    show up2 _ k 7 0 j 7 = _
    by_cases e : j = k
    · subst e; rw [up2_self, if_pos rfl]
    · rw [up2_k _ _ _ _ e, if_neg e]
      exact hP.1 j 7 (.inl ⟨by omega, by omega⟩)
  have hFo : ∀ j, s.1 ≤ j → (bpayA s k (s.2.2.1 k)).2.2.1 j = s.2.2.1 j := fun j hj => bpay_o hk hj fun e he => (h.m.w.e he).1
  refine ⟨⟨h.m.n6, hp.w.sub (hw.1.map _), fun e he => hp.pos e (hw.1.subset he), fun j hj => ?_, fun j hj => ?_, fun j hj => ?_, hp.F0, hp.FS, ?_, h.m.s0, h.m.s1, h.m.s2⟩, fun q hq => ?_, fun j hj => ?_, fun j hj t ht => ?_, fun j hj t ht => ?_, fun j hj => ?_, ?_, fun j hj => ?_⟩
  · rw [hP7]
    split
    · exact .inl rfl
    · exact h.m.op j hj
  · rw [hPc _ _ (by omega) (by omega) (by omega)]; exact h.m.rk j hj
  · rw [hPc _ _ (by omega) (by omega) (by omega)]; exact h.m.bf j hj
  · have h1 := hp.LS
    have h2 := bsum_sub hw.1 hp.pos
    show bsum (bwo k (bpayA s k (s.2.2.1 k)).2.2.2.1 s.2.1).1 ≤ b
    omega
  · obtain ⟨e, he, rfl⟩ := List.mem_map.mp hq
    have h1 := hw.2 e he
    have h2 : bkey e ∈ s.2.2.2.1.map bkey := bpay_s.subset (List.mem_map.mpr ⟨e, hw.1.subset he, rfl⟩)
    have h3 := h.opn _ h2
    rw [hP7, hP7, if_neg (show ¬(bkey e).1 = k from h1.1), if_neg (show ¬(bkey e).2 = k from h1.2)]
    exact h3
  · rw [hPc _ _ (by omega) (by omega) (by omega), hPc _ _ (by omega) (by omega) (by omega)]; exact h.mn j hj
  · rw [hPc _ _ (by omega) (by omega) (by omega)] at ht
    rw [hPc _ _ (by omega) (by omega) (by omega)]; exact h.pl j hj t ht
  · rw [hPc _ _ (by omega) (by omega) (by omega)] at ht
    rw [hPc _ _ (by omega) (by omega) (by omega)]; exact h.dy j hj t ht
  · rw [hPc _ _ (by omega) (by omega) (by omega), hPc _ _ (by omega) (by omega) (by omega), bdl_congr (P' := s.2.1) fun t _ => ⟨hPc _ _ (by omega) (by omega) (by omega), hPc _ _ (by omega) (by omega) (by omega)⟩]; exact h.lt j hj
  · show bsC (up2 _ k 7 0) 8 s.1 = s.2.2.2.2.2 + _
    rw [bsC_congr (P' := (bwo k (bpayA s k (s.2.2.1 k)).2.2.2.1 s.2.1).2.1) fun j _ => up2_c _ _ _ _ (by omega), hP.2, h.wn]
  · have hj' : s.1 ≤ j := hj
    have := h.z0 j hj'
    refine ⟨by rw [← this.1]; exact hFo j hj', fun c => ?_⟩
    show up2 _ k 7 0 j c = 0
    rw [up2_k _ _ _ _ (by omega), hP.1 j c (.inr hj')]
    exact this.2 c
end
