/- needs: 10_base 11_kit 12_refw 13_refs 14_refl 15_pay 16_order -/
/-! ===== what loans keep ===== -/
def bkey (e : bLn) : Nat × Nat := (e.1, e.2.1)
abbrev bLw (np : Nat) (L : List bLn) : Prop := (∀ q ∈ L.map bkey, q.1 < np ∧ q.2 < np ∧ q.1 ≠ q.2) ∧ ((L.map bkey).Nodup)
theorem bLw.ab {np : Nat} {L : List bLn} (h__ : bLw np L) : ∀ q ∈ L.map bkey, q.1 < np ∧ q.2 < np ∧ q.1 ≠ q.2 := h__.1
theorem bLw.nd {np : Nat} {L : List bLn} (h__ : bLw np L) : (L.map bkey).Nodup := h__.2
def bsum : List bLn → Int
  | [] => 0
  | e :: es => e.2.2 + bsum es
theorem bsum_c (e : bLn) (es : List bLn) : bsum (e :: es) = e.2.2 + bsum es := rfl
theorem bsum_nn : ∀ {L : List bLn}, (∀ e ∈ L, 0 < e.2.2) → 0 ≤ bsum L ∧ ∀ e ∈ L, e.2.2 ≤ bsum L := by
  intro L
  induction L with
  | nil => intro _; exact ⟨Int.le_refl _, fun e he => by cases he⟩
  | cons x xs ih =>
    intro h
    have h1 := ih fun e he => h e (List.mem_cons_of_mem _ he)
    have h2 := h x List.mem_cons_self
    rw [bsum_c]
    refine ⟨by omega, fun e he => ?_⟩
    rcases List.mem_cons.mp he with rfl | he
    · omega
    · have := h1.2 e he; omega
theorem blent_r {k : Nat} : ∀ {L : List bLn}, (∀ e ∈ L, 0 < e.2.2) → 0 ≤ blent k L ∧ blent k L ≤ bsum L := by
  intro L
  induction L with
  | nil => intro _; exact ⟨Int.le_refl _, Int.le_refl _⟩
  | cons x xs ih =>
    intro h
    have h1 := ih fun e he => h e (List.mem_cons_of_mem _ he)
    have h2 := h x List.mem_cons_self
    rw [bsum_c, blent_c]
    split <;> omega
theorem bLw.e {np : Nat} {L : List bLn} (h : bLw np L) {e : bLn} (he : e ∈ L) : e.1 < np ∧ e.2.1 < np ∧ e.1 ≠ e.2.1 := h.ab (bkey e) (List.mem_map.mpr ⟨e, he, rfl⟩)
theorem bLw.sub {np : Nat} {L L' : List bLn} (h : bLw np L) (hs : (L'.map bkey).Sublist (L.map bkey)) : bLw np L' := ⟨fun q hq => h.ab q (hs.subset hq), List.Nodup.sublist hs h.nd⟩
def bcode (q : Nat × Nat) : Nat := 5 * q.1 + if q.2 < q.1 then q.2 else q.2 - 1
theorem bcode_inj {p q : Nat × Nat} (hp : p.1 < 6 ∧ p.2 < 6 ∧ p.1 ≠ p.2) (hq : q.1 < 6 ∧ q.2 < 6 ∧ q.1 ≠ q.2) (h : bcode p = bcode q) : p = q := by
  obtain ⟨p1, p2⟩ := p
  obtain ⟨q1, q2⟩ := q
  unfold bcode at h
  dsimp only at *
  have : p1 = q1 ∧ p2 = q2 := by split at h <;> split at h <;> omega
  rw [this.1, this.2]
theorem bcode_lt {p : Nat × Nat} (hp : p.1 < 6 ∧ p.2 < 6 ∧ p.1 ≠ p.2) : bcode p < 30 := by
  unfold bcode
  split <;> omega
theorem nodup_map_on {α β : Type} {f : α → β} : ∀ {l : List α}, l.Nodup → (∀ x ∈ l, ∀ y ∈ l, f x = f y → x = y) → (l.map f).Nodup := by
  intro l
  induction l with
  | nil => intro _ _; exact List.nodup_nil
  | cons x xs ih =>
    intro h hf
    have h1 := List.nodup_cons.mp h
    rw [List.map_cons]
    refine List.nodup_cons.mpr ⟨fun hm => ?_, ih h1.2 fun a ha b hb => hf a (List.mem_cons_of_mem _ ha) b (List.mem_cons_of_mem _ hb)⟩
    obtain ⟨y, hy, e⟩ := List.mem_map.mp hm
    have := hf y (List.mem_cons_of_mem _ hy) x List.mem_cons_self e
    subst this
    exact h1.1 hy
theorem bLw.l30 {np : Nat} {L : List bLn} (h : bLw np L) (h6 : np ≤ 6) : L.length ≤ 30 := by
  have h1 := nodup_lt 30 ((L.map bkey).map bcode) (nodup_map_on h.nd fun x hx y hy e => by
    have h2 := h.ab x hx
    have h3 := h.ab y hy
    exact bcode_inj (by omega) (by omega) e) (fun x hx => by
    obtain ⟨y, hy, e⟩ := List.mem_map.mp hx
    have h3 := h.ab y hy
    subst e
    exact bcode_lt (by omega))
  simpa using h1
theorem bLw.cons {np : Nat} {L : List bLn} (h : bLw np L) {a b : Nat} {x : Int} (ha : a < np) (hb : b < np) (hab : a ≠ b) (hn : ∀ e ∈ L, ¬(e.1 = a ∧ e.2.1 = b)) : bLw np (L ++ [⟨a, b, x⟩]) := by
  refine ⟨fun q hq => ?_, ?_⟩
  · rw [List.map_append] at hq
    rcases List.mem_append.mp hq with hq | hq
    · exact h.ab q hq
    · have : q = (a, b) := by simpa [bkey] using hq
      subst this
      exact ⟨ha, hb, hab⟩
  · rw [List.map_append]
    refine List.nodup_append.mpr ⟨h.nd, by simp, fun q hq p hp => ?_⟩
    have : p = (a, b) := by simpa [bkey] using hp
    subst this
    rintro rfl
    obtain ⟨e, he, e2⟩ := List.mem_map.mp hq
    have e3 : (e.1, e.2.1) = (a, b) := e2
    injection e3 with e4 e5
    exact hn e he ⟨e4, e5⟩
theorem bLw.l29 {np : Nat} {L : List bLn} (h : bLw np L) (h6 : np ≤ 6) {a b : Nat} (ha : a < np) (hb : b < np) (hab : a ≠ b) (hn : ∀ e ∈ L, ¬(e.1 = a ∧ e.2.1 = b)) : L.length < 30 := by
  have := (h.cons (x := 1) ha hb hab hn).l30 h6
  simp at this
  omega
theorem bsplit (a b : Nat) (L : List bLn) : (∀ e ∈ L, ¬(e.1 = a ∧ e.2.1 = b)) ∨ ∃ pre e suf, L = pre ++ e :: suf ∧ e.1 = a ∧ e.2.1 = b ∧ ∀ y ∈ pre, ¬(y.1 = a ∧ y.2.1 = b) := by
  by_cases c : bpos a b L ((0 : Nat) : Int) = -1
  · exact .inl (bpos_none c (by omega)).2
  · obtain ⟨pre, e, suf, h3, h4, h5, h6, h7, h8⟩ := bpos_some c
    exact .inr ⟨pre, e, suf, h3, h5, h6, h8⟩
theorem bsum_app (l m : List bLn) : bsum (l ++ m) = bsum l + bsum m := by
  induction l with
  | nil => simp [bsum]
  | cons x xs ih => rw [List.cons_append, bsum_c, bsum_c, ih]; omega
theorem badd_w {np : Nat} {L : List bLn} (h : bLw np L) {a b : Nat} {x : Int} (ha : a < np) (hb : b < np) (hab : a ≠ b) : bLw np (badd a b x L) := by
  rcases bsplit a b L with hn | ⟨pre, e, suf, h1, h2, h3, h4⟩
  · rw [badd_none hn]; exact h.cons ha hb hab hn
  · rw [h1, badd_some h4 h2 h3]
    refine h.sub ?_
    rw [h1]
    simp [bkey]
theorem badd_sum {L : List bLn} {a b : Nat} {x : Int} : bsum (badd a b x L) = bsum L + x := by
  induction L with
  | nil => show x + 0 = 0 + x; omega
  | cons e es ih =>
    rw [badd_c]
    split
    · rw [bsum_c, bsum_c]; dsimp only; omega
    · rw [bsum_c, bsum_c, ih]; omega
theorem badd_pos {L : List bLn} {a b : Nat} {x : Int} (hx : 0 < x) (h : ∀ e ∈ L, 0 < e.2.2) : ∀ e ∈ badd a b x L, 0 < e.2.2 := by
  induction L with
  | nil =>
    intro e he
    have : e = ⟨a, b, x⟩ := by simpa [badd] using he
    subst this
    exact hx
  | cons y ys ih =>
    intro e he
    rw [badd_c] at he
    have hy := h y List.mem_cons_self
    split at he
    · rcases List.mem_cons.mp he with rfl | he
      · dsimp only; omega
      · exact h e (List.mem_cons_of_mem _ he)
    · rcases List.mem_cons.mp he with rfl | he
      · exact hy
      · exact ih (fun e he => h e (List.mem_cons_of_mem _ he)) e he
/-! sums of the days left -/
def bsF (F : Nat → Int) : Nat → Int
  | 0 => 0
  | n + 1 => bsF F n + F n
theorem bsF_up {F : Nat → Int} {k : Nat} {v : Int} : ∀ {n : Nat}, bsF (up1 F k v) n = bsF F n + if k < n then v - F k else 0 := by
  intro n
  induction n with
  | zero => simp [bsF]
  | succ n ih =>
    unfold bsF
    rw [ih]
    by_cases c : n = k
    · subst c; rw [up1_self, if_neg (by omega), if_pos (by omega)]; omega
    · rw [up1_ne _ _ c]
      by_cases d : k < n
      · rw [if_pos d, if_pos (by omega)]; omega
      · rw [if_neg d, if_neg (by omega)]; omega
theorem bsF_nn {F : Nat → Int} : ∀ {n : Nat}, (∀ j, j < n → 0 ≤ F j) → 0 ≤ bsF F n ∧ ∀ j, j < n → F j ≤ bsF F n := by
  intro n
  induction n with
  | zero => intro _; exact ⟨Int.le_refl _, fun j hj => absurd hj (by omega)⟩
  | succ n ih =>
    intro h
    have h1 := ih fun j hj => h j (by omega)
    have h2 := h n (by omega)
    unfold bsF
    refine ⟨by omega, fun j hj => ?_⟩
    by_cases c : j = n
    · subst c; omega
    · have := h1.2 j (by omega); omega
/-! what paying keeps -/
theorem bpay_s {b : Nat} : ∀ {L : List bLn} {left : Int} {F : Nat → Int}, ((bpay b L left F).1.map bkey).Sublist (L.map bkey) := by
  intro L
  induction L with
  | nil => intro left F; exact List.Sublist.refl _
  | cons e es ih =>
    intro left F
    rw [bpay_c]
    split
    · exact List.Sublist.refl _
    · split
      · split
        · exact List.Sublist.cons _ ih
        · exact List.Sublist.cons_cons _ ih
      · exact List.Sublist.cons_cons _ ih
theorem bpay_p {b : Nat} : ∀ {L : List bLn} {left : Int} {F : Nat → Int}, (∀ e ∈ L, 0 < e.2.2) → (∀ e ∈ (bpay b L left F).1, 0 < e.2.2) ∧ bsum (bpay b L left F).1 ≤ bsum L := by
  intro L
  induction L with
  | nil => intro left F h; exact ⟨h, Int.le_refl _⟩
  | cons e es ih =>
    intro left F h
    have h0 := h e List.mem_cons_self
    have ht : ∀ e ∈ es, 0 < e.2.2 := fun e he => h e (List.mem_cons_of_mem _ he)
    rw [bpay_c]
    split
    · exact ⟨h, Int.le_refl _⟩
    · rename_i c0
      split
      · split
        · have := ih (left := left - min left e.2.2) (F := up1 (up1 F b (F b - min left e.2.2)) e.1 (up1 F b (F b - min left e.2.2) e.1 + min left e.2.2)) ht
          refine ⟨this.1, ?_⟩
          rw [bsum_c]; omega
        · have := ih (left := left - min left e.2.2) (F := up1 (up1 F b (F b - min left e.2.2)) e.1 (up1 F b (F b - min left e.2.2) e.1 + min left e.2.2)) ht
          refine ⟨fun x hx => ?_, ?_⟩
          · rcases List.mem_cons.mp hx with rfl | hx
            · dsimp only; omega
            · exact this.1 x hx
          · dsimp only; rw [bsum_c, bsum_c]; dsimp only; omega
      · have := ih (left := left) (F := F) ht
        refine ⟨fun x hx => ?_, ?_⟩
        · rcases List.mem_cons.mp hx with rfl | hx
          · exact h0
          · exact this.1 x hx
        · dsimp only; rw [bsum_c, bsum_c]; omega
theorem bpay_F {np b : Nat} (hb : b < np) : ∀ {L : List bLn} {left : Int} {F : Nat → Int}, (∀ e ∈ L, e.1 < np ∧ e.1 ≠ e.2.1 ∧ 0 < e.2.2) → (∀ j, j < np → 0 ≤ F j) → left ≤ F b → (∀ j, j < np → 0 ≤ (bpay b L left F).2 j) ∧ bsF (bpay b L left F).2 np = bsF F np := by
  intro L
  induction L with
  | nil => intro left F _ hF _; exact ⟨hF, rfl⟩
  | cons e es ih =>
    intro left F h hF hle
    have h0 := h e List.mem_cons_self
    have ht : ∀ e ∈ es, e.1 < np ∧ e.1 ≠ e.2.1 ∧ 0 < e.2.2 := fun e he => h e (List.mem_cons_of_mem _ he)
    rw [bpay_c]
    split
    · exact ⟨hF, rfl⟩
    · rename_i c0
      split
      · rename_i c1
        generalize hv : min left e.2.2 = v
        have hv1 : 0 < v ∧ v ≤ left ∧ v ≤ e.2.2 := by omega
        have ha : e.1 ≠ b := by omega
        have hFb := hF b hb
        have hFa := hF e.1 h0.1
        have e1 : up1 F b (F b - v) e.1 = F e.1 := up1_ne _ _ ha
        have hF2 : ∀ j, j < np → 0 ≤ up1 (up1 F b (F b - v)) e.1 (up1 F b (F b - v) e.1 + v) j := by
          intro j hj
          have := hF j hj
          rw [e1]
          by_cases ca : j = e.1
          · subst ca; rw [up1_self]; omega
          · rw [up1_ne _ _ ca]
            by_cases cb : j = b
            · subst cb; rw [up1_self]; omega
            · rw [up1_ne _ _ cb]; exact this
        have hle2 : left - v ≤ up1 (up1 F b (F b - v)) e.1 (up1 F b (F b - v) e.1 + v) b := by
          rw [up1_ne _ _ (Ne.symm ha), up1_self]; omega
        have hs2 : bsF (up1 (up1 F b (F b - v)) e.1 (up1 F b (F b - v) e.1 + v)) np = bsF F np := by
          rw [bsF_up, bsF_up, if_pos hb, if_pos h0.1]; omega
        have := ih ht hF2 hle2
        rw [hs2] at this
        split <;> exact this
      · exact ih ht hF hle
/-! what calling back keeps -/
theorem bcall_s {k : Nat} : ∀ {L : List bLn} {left : Int} {F : Nat → Int}, ((bcall k L left F).1.map bkey).Sublist (L.map bkey) := by
  intro L
  induction L with
  | nil => intro left F; exact List.Sublist.refl _
  | cons e es ih =>
    intro left F
    rw [bcall_c]
    split
    · exact List.Sublist.refl _
    · split
      · split
        · exact List.Sublist.cons _ ih
        · exact List.Sublist.cons_cons _ ih
      · exact List.Sublist.cons_cons _ ih
theorem bcall_F {np k : Nat} : ∀ {L : List bLn} {left : Int} {F : Nat → Int}, (∀ e ∈ L, e.2.1 < np ∧ 0 < e.2.2) → (∀ j, j < np → 0 ≤ F j) → 0 ≤ left → (∀ j, j < np → 0 ≤ (bcall k L left F).2.1 j ∧ (bcall k L left F).2.1 j ≤ F j) ∧ bsF (bcall k L left F).2.1 np = bsF F np - (left - (bcall k L left F).2.2) ∧ 0 ≤ (bcall k L left F).2.2 ∧ (bcall k L left F).2.2 ≤ left ∧ (∀ e ∈ (bcall k L left F).1, 0 < e.2.2) ∧ bsum (bcall k L left F).1 ≤ bsum L := by
  intro L
  induction L with
  | nil => intro left F _ hF hle; exact ⟨fun j hj => ⟨hF j hj, Int.le_refl _⟩, by show bsF F np = bsF F np - (left - left); omega, hle, Int.le_refl _, (fun e he => by cases he), Int.le_refl _⟩
  | cons e es ih =>
    intro left F h hF hle
    have h0 := h e List.mem_cons_self
    have ht : ∀ e ∈ es, e.2.1 < np ∧ 0 < e.2.2 := fun e he => h e (List.mem_cons_of_mem _ he)
    rw [bcall_c]
    split
    · exact ⟨fun j hj => ⟨hF j hj, Int.le_refl _⟩, by dsimp only; omega, hle, Int.le_refl _, fun x hx => (h x hx).2, Int.le_refl _⟩
    · rename_i c0
      split
      · rename_i c1
        generalize hv : min left (min e.2.2 (F e.2.1)) = v
        have hFb := hF e.2.1 h0.1
        have hv1 : 0 ≤ v ∧ v ≤ left ∧ v ≤ e.2.2 ∧ v ≤ F e.2.1 := by omega
        have hF2 : ∀ j, j < np → 0 ≤ up1 F e.2.1 (F e.2.1 - v) j ∧ up1 F e.2.1 (F e.2.1 - v) j ≤ F j := by
          intro j hj
          have := hF j hj
          by_cases cb : j = e.2.1
          · subst cb; rw [up1_self]; omega
          · rw [up1_ne _ _ cb]; omega
        have hs2 : bsF (up1 F e.2.1 (F e.2.1 - v)) np = bsF F np - v := by
          rw [bsF_up, if_pos h0.1]; omega
        obtain ⟨i1, i2, i3, i4, i5, i6⟩ := ih (left := left - v) ht (fun j hj => (hF2 j hj).1) (by omega)
        rw [hs2] at i2
        split
        · refine ⟨fun j hj => ?_, by omega, i3, by omega, i5, by rw [bsum_c]; omega⟩
          have := i1 j hj
          have := hF2 j hj
          omega
        · dsimp only
          refine ⟨fun j hj => ?_, by omega, i3, by omega, fun x hx => ?_, by rw [bsum_c, bsum_c]; dsimp only; omega⟩
          · have := i1 j hj
            have := hF2 j hj
            omega
          · rcases List.mem_cons.mp hx with rfl | hx
            · dsimp only; omega
            · exact i5 x hx
      · obtain ⟨i1, i2, i3, i4, i5, i6⟩ := ih (left := left) ht hF hle
        dsimp only
        refine ⟨i1, i2, i3, i4, fun x hx => ?_, by rw [bsum_c, bsum_c]; omega⟩
        rcases List.mem_cons.mp hx with rfl | hx
        · exact h0.2
        · exact i5 x hx
/-! borrowing -/
def bbor (k : Nat) (c : Nat → Int) : List Nat → Int → List bLn → (Nat → Int) → List bLn × (Nat → Int) × Int
  | [], left, L, F => (L, F, left)
  | j :: js, left, L, F => if left ≤ 0 then (L, F, left) else bbor k c js (left - min left (c j)) (badd j k (min left (c j)) L) (up1 F j (F j - min left (c j)))
theorem bbor_c (k : Nat) (c : Nat → Int) (j : Nat) (js : List Nat) (left : Int) (L : List bLn) (F : Nat → Int) : bbor k c (j :: js) left L F = if left ≤ 0 then (L, F, left) else bbor k c js (left - min left (c j)) (badd j k (min left (c j)) L) (up1 F j (F j - min left (c j))) := rfl
theorem bbor_F {np k : Nat} (hk : k < np) {c : Nat → Int} : ∀ {js : List Nat} {left : Int} {L : List bLn} {F : Nat → Int}, (∀ j ∈ js, j < np ∧ j ≠ k ∧ 0 < c j ∧ c j ≤ F j) → js.Nodup → bLw np L → (∀ e ∈ L, 0 < e.2.2) → (∀ j, j < np → 0 ≤ F j) → 0 ≤ left → (∀ j, j < np → 0 ≤ (bbor k c js left L F).2.1 j ∧ (bbor k c js left L F).2.1 j ≤ F j) ∧ bsF (bbor k c js left L F).2.1 np = bsF F np - (left - (bbor k c js left L F).2.2) ∧ 0 ≤ (bbor k c js left L F).2.2 ∧ (bbor k c js left L F).2.2 ≤ left ∧ bLw np (bbor k c js left L F).1 ∧ (∀ e ∈ (bbor k c js left L F).1, 0 < e.2.2) ∧ bsum (bbor k c js left L F).1 = bsum L + (left - (bbor k c js left L F).2.2) := by
  intro js
  induction js with
  | nil => intro left L F _ _ hw hp hF hle; exact ⟨fun j hj => ⟨hF j hj, Int.le_refl _⟩, by show bsF F np = bsF F np - (left - left); omega, hle, Int.le_refl _, hw, hp, by show bsum L = bsum L + (left - left); omega⟩
  | cons j js ih =>
    intro left L F h hn hw hp hF hle
    have h0 := h j List.mem_cons_self
    have hn1 := List.nodup_cons.mp hn
    rw [bbor_c]
    split
    · exact ⟨fun j hj => ⟨hF j hj, Int.le_refl _⟩, by dsimp only; omega, hle, Int.le_refl _, hw, hp, by dsimp only; omega⟩
    · rename_i c0
      generalize hv : min left (c j) = v
      have hv1 : 0 < v ∧ v ≤ left ∧ v ≤ c j := by omega
      have hF2 : ∀ i, i < np → 0 ≤ up1 F j (F j - v) i ∧ up1 F j (F j - v) i ≤ F i := by
        intro i hi
        have := hF i hi
        by_cases cb : i = j
        · subst cb; rw [up1_self]; omega
        · rw [up1_ne _ _ cb]; omega
      have hs2 : bsF (up1 F j (F j - v)) np = bsF F np - v := by
        rw [bsF_up, if_pos h0.1]; omega
      obtain ⟨i1, i2, i3, i4, i5, i6, i7⟩ := ih (left := left - v) (L := badd j k v L) (F := up1 F j (F j - v)) (fun i hi => by
        have h3 := h i (List.mem_cons_of_mem _ hi)
        have : i ≠ j := fun e => hn1.1 (e ▸ hi)
        rw [up1_ne _ _ this]
        exact h3) hn1.2 (badd_w hw h0.1 hk h0.2.1) (badd_pos hv1.1 hp) (fun i hi => (hF2 i hi).1) (by omega)
      rw [hs2] at i2
      rw [badd_sum] at i7
      refine ⟨fun i hi => ?_, by omega, i3, by omega, i5, i6, by omega⟩
      have := i1 i hi
      have := hF2 i hi
      omega
theorem bLw.lok {s : bSt} (h : bLw s.1 s.2.2.2.1) : bLok s := fun e he => ⟨(h.e he).1, (h.e he).2.1⟩
theorem bcl_le {s : bSt} (hm : bSm s) {k : Nat} (hk : k < s.1) : bcl s k ≤ s.2.2.1 k := by
  have h1 := bkept (hm.bf k hk) hm.s1
  have h2 := hm.lf k hk
  unfold bcl
  split <;> omega
theorem l_borrow {k : Nat} {od : bw_A1} {om bo la x2 : Int32} {l : List Nat} (hro : bRO od om l) (hl6 : l.length ≤ 6) {c : Nat → Int} : ∀ (js pre : List Nat) (n : Nat) (left : Int) (z : Nat → Int32) (s : bSt), l = pre ++ js → js.length < n → bRZ z s → bLw s.1 s.2.2.2.1 → bSm s → k < s.1 → (∀ j ∈ js, j < s.1 ∧ j ≠ k ∧ 0 < c j ∧ bcl s j = c j) → js.Nodup → 0 ≤ left ∧ left ≤ 1000000000 → bOk (lX6_borrow_10 od om bo la (iv k) x2 n z (iv left) (iv pre.length)) fun r => bRZ r.1 (s.1, s.2.1, (bbor k c js left s.2.2.2.1 s.2.2.1).2.1, (bbor k c js left s.2.2.2.1 s.2.2.1).1, s.2.2.2.2.1, s.2.2.2.2.2) ∧ r.2.2.2.1 = x2 - iv (bbor k c js left s.2.2.2.1 s.2.2.1).2.2 ∧ r.2.2.2.2 = iv (bbor k c js left s.2.2.2.1 s.2.2.1).2.2 := by
  have hom := hro.m
  subst hom
  intro js
  induction js with
  | nil =>
    intro pre n left z s hl hn h hw hm hk hj hnd hleft
    cases n with
    | zero => omega
    | succ n =>
      have hlen : l.length = pre.length := by rw [hl]; simp
      show bOk (bX6_borrow_10 (lX6_borrow_10 od (iv l.length) bo la (iv k) x2 n) od (iv l.length) bo la (iv k) x2 z (iv left) (iv pre.length)) _
      unfold bX6_borrow_10 jX6_borrow_87
      rw [ite_le (r32n (by omega)) (r32n (by omega)), if_pos (by omega), bw_let_s]
      exact bOk_s ⟨h, rfl, rfl⟩
  | cons j js ih =>
    intro pre n left z s hl hn h hw hm hk hj hnd hleft
    cases n with
    | zero => simp at hn
    | succ n =>
      have h6 := h.n6
      rw [List.length_cons] at hn
      have hlen : l.length = pre.length + (js.length + 1) := by rw [hl]; simp
      have hj0 := hj j List.mem_cons_self
      have hn1 := List.nodup_cons.mp hnd
      have hc6 := bcl_r hm hj0.1
      have hcF := bcl_le hm hj0.1
      show bOk (bX6_borrow_10 (lX6_borrow_10 od (iv l.length) bo la (iv k) x2 n) od (iv l.length) bo la (iv k) x2 z (iv left) (iv pre.length)) _
      unfold bX6_borrow_10 jX6_borrow_87
      rw [ite_le (r32n (by omega)) (r32n (by omega)), if_neg (by omega)]
      rw [show (0 : Int32) = iv 0 from rfl, ite_le (r32i (by omega) (by omega)) (r32i (by omega) (by omega)), bbor_c]
      by_cases c0 : left ≤ 0
      · rw [if_pos c0, if_pos c0, bw_let_s]
        exact bOk_s ⟨h, rfl, rfl⟩
      · rw [if_neg c0, if_neg c0]
        have er : bw_rd 6 od (iv pre.length) = some (iv j) := by
          rw [iv_rd (by omega) (by omega) (by omega)]
          show some (od pre.length) = _
          rw [hro.o pre.length (by omega)]
          simp [hl]
        rw [er, bw_b1_s, f_canLend h hm hj0.1, bw_b1_s, f_least (r32i (by omega) (by omega)) (r32i (by omega) (by omega)), bw_b1_s, bw_b1_s]
        rw [hj0.2.2.2]
        generalize hv : min left (c j) = v
        have hv1 : 0 < v ∧ v ≤ left ∧ v ≤ c j := by omega
        refine bOk_b1 (f_addLoan h hm.lok (by omega) (by omega) (fun hne => hw.l29 h6 hj0.1 hk hj0.2.1 hne) v) fun z1 h1 => ?_
        rw [bw_b1_s, f_at, bw_b1_s, h1.rF hj0.1, bw_b1_s, iv_sub]
        refine bOk_b1 (h1.wF hj0.1 _) fun z2 h2 => ?_
        rw [bw_let_s, bw_let_s, iv_sub, iv_succ, ← len_snoc pre j]
        have hw2 := badd_w (x := v) hw hj0.1 hk hj0.2.1
        refine ih (pre ++ [j]) n (left - v) z2 (s.1, s.2.1, up1 s.2.2.1 j (s.2.2.1 j - v), badd j k v s.2.2.2.1, s.2.2.2.2.1, s.2.2.2.2.2) (by rw [app_snoc]; exact hl) (by omega) h2 hw2 ⟨hw2.lok, hm.op, hm.rk, hm.bf, fun i hi => ?_, hm.s0, hm.s1⟩ hk (fun i hi => ?_) hn1.2 (by omega)
        · have := hm.lf i hi
          dsimp only
          by_cases cb : i = j
          · subst cb; rw [up1_self]; omega
          · rw [up1_ne _ _ cb]; omega
        · have h3 := hj i (List.mem_cons_of_mem _ hi)
          have hne : i ≠ j := fun e => hn1.1 (e ▸ hi)
          refine ⟨h3.1, h3.2.1, h3.2.2.1, ?_⟩
          rw [← h3.2.2.2]
          simp only [bcl, up1_ne _ _ hne]
/-- the state behind a borrowing -/
def bborS (s : bSt) (k : Nat) (left : Int) : List bLn × (Nat → Int) × Int := bbor k (bcl s) (bl5 s k) left s.2.2.2.1 s.2.2.1
theorem bl5_in {s : bSt} {k j : Nat} (h : j ∈ bl5 s k) : j < s.1 ∧ j ≠ k ∧ 0 < bcl s j := by
  unfold bl5 at h
  split at h
  · exact bord_mem.mp h
  · cases h
theorem bl5_nd {s : bSt} {k : Nat} : (bl5 s k).Nodup := by
  unfold bl5
  split
  · exact bpw_nodup bord_pw
  · exact List.nodup_nil
theorem f_borrow {z : Nat → Int32} {s : bSt} (h : bRZ z s) (hw : bLw s.1 s.2.2.2.1) (hm : bSm s) (hlt : ∀ k, 0 ≤ blent k s.2.2.2.1 ∧ blent k s.2.2.2.1 ≤ 2000000000) {k : Nat} (hk : k < s.1) {od : bw_A1} {om bo la : Int32} {left : Int} (hleft : 0 ≤ left ∧ left ≤ 1000000000) : bOk (fX6_borrow z od om bo la (iv k) (iv left)) fun r => bRZ r.1 (s.1, s.2.1, (bborS s k left).2.1, (bborS s k left).1, s.2.2.2.2.1, s.2.2.2.2.2) ∧ r.2.2.2.1 = iv (left - (bborS s k left).2.2) ∧ r.2.2.2.2 = iv (bborS s k left).2.2 := by
  have h6 := h.n6
  unfold fX6_borrow
  refine bOk_b2 (f_layOrder h hm hlt hk) fun od1 om1 hro => ?_
  have hl6 : (bl5 s k).length ≤ 6 := nodup_lt 6 _ bl5_nd fun x hx => by have := bl5_in hx; omega
  refine bOk_m (l_borrow hro hl6 (c := bcl s) (bl5 s k) [] bw_fu left z s rfl (by unfold bw_fu; omega) h hw hm hk (fun j hj => ⟨(bl5_in hj).1, (bl5_in hj).2.1, (bl5_in hj).2.2, rfl⟩) bl5_nd hleft) fun r hr => ⟨hr.1, ?_, hr.2.2⟩
  rw [hr.2.1, iv_sub]
  rfl
