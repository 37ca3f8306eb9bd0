/- needs: 45.ifs -/
/-! ===== what a project bears ===== -/
theorem bcall_big {np k : Nat} : ∀ {L : List bLn} {left : Int} {F : Nat → Int}, (∀ e ∈ L, e.2.1 < np ∧ 0 < e.2.2) → (L.map bkey).Nodup → (∀ j, j < np → 0 ≤ F j) → bsF F np < left → ∀ j, j < np → (bcall k L left F).2.1 j = F j - min (F j) (bow k j L) := by
  intro L
  induction L with
  | nil =>
    intro left F _ _ hF _ j hj
    have := hF j hj
    show F j = F j - min (F j) 0
    omega
  | cons e es ih =>
    intro left F h hn hF hle j hj
    have h0 := h e List.mem_cons_self
    have ht : ∀ e ∈ es, e.2.1 < np ∧ 0 < e.2.2 := fun e he => h e (List.mem_cons_of_mem _ he)
    rw [List.map_cons] at hn
    have hn1 := List.nodup_cons.mp hn
    have hs := bsF_nn hF
    have hFj := hF j hj
    rw [bcall_c, if_neg (by omega), bow_c]
    by_cases c1 : e.1 = k
    · rw [if_pos c1]
      have hFb := hF e.2.1 h0.1
      have hFb2 := hs.2 e.2.1 h0.1
      have hmin : min left (min e.2.2 (F e.2.1)) = min e.2.2 (F e.2.1) := by omega
      rw [hmin]
      generalize hv : min e.2.2 (F e.2.1) = v
      have hv1 : 0 ≤ v ∧ v ≤ e.2.2 ∧ v ≤ F e.2.1 := by omega
      have hF2 : ∀ i, i < np → 0 ≤ up1 F e.2.1 (F e.2.1 - v) i := by
        intro i hi
        have := hF i hi
        by_cases cb : i = e.2.1
        · subst cb; rw [up1_self]; omega
        · rw [up1_ne _ _ cb]; omega
      have hs2 : bsF (up1 F e.2.1 (F e.2.1 - v)) np = bsF F np - v := by rw [bsF_up, if_pos h0.1]; omega
      have := ih (left := left - v) ht hn1.2 hF2 (by omega) j hj
      have e3 : (if v = e.2.2 then bcall k es (left - v) (up1 F e.2.1 (F e.2.1 - v)) else ((e.1, e.2.1, e.2.2 - v) :: (bcall k es (left - v) (up1 F e.2.1 (F e.2.1 - v))).1, (bcall k es (left - v) (up1 F e.2.1 (F e.2.1 - v))).2)).2.1 j = (bcall k es (left - v) (up1 F e.2.1 (F e.2.1 - v))).2.1 j := by split <;> rfl
      rw [e3, this]
      by_cases cb : j = e.2.1
      · subst cb
        have hno : bow k e.2.1 es = 0 := by
          rcases bsplit k e.2.1 es with q | ⟨pre, y, suf, e4, e5, e6, e7⟩
          · by_cases q2 : bpos k e.2.1 es ((0 : Nat) : Int) = -1
            · exact (bpos_none q2 (by omega)).1
            · obtain ⟨pre, y, suf, h3, h4, h5, h6, h7, h8⟩ := bpos_some q2
              exact absurd ⟨h5, h6⟩ (q y (by rw [h3]; simp))
          · exfalso
            apply hn1.1
            refine List.mem_map.mpr ⟨y, by rw [e4]; simp, ?_⟩
            unfold bkey
            rw [e5, e6, c1]
        rw [hno, up1_self, if_pos ⟨c1, rfl⟩]
        omega
      · rw [up1_ne _ _ cb, if_neg (fun q => cb q.2.symm)]
    · rw [if_neg c1, if_neg (fun q => c1 q.1)]
      exact ih ht hn1.2 hF hle j hj
theorem bbor_big {np k : Nat} {c : Nat → Int} : ∀ {js : List Nat} {left : Int} {L : List bLn} {F : Nat → Int}, (∀ j ∈ js, j < np ∧ 0 ≤ c j ∧ c j ≤ F j) → js.Nodup → (∀ j, j < np → 0 ≤ F j) → bsF F np < left → ∀ j, (bbor k c js left L F).2.1 j = if j ∈ js then F j - c j else F j := by
  intro js
  induction js with
  | nil => intro left L F _ _ _ _ j; rfl
  | cons i is ih =>
    intro left L F h hn hF hle j
    have h0 := h i List.mem_cons_self
    have hn1 := List.nodup_cons.mp hn
    have hs := bsF_nn hF
    have hFi := hs.2 i h0.1
    rw [bbor_c, if_neg (by omega), show min left (c i) = c i by omega]
    have hF2 : ∀ x, x < np → 0 ≤ up1 F i (F i - c i) x := by
      intro x hx
      have := hF x hx
      by_cases cb : x = i
      · subst cb; rw [up1_self]; omega
      · rw [up1_ne _ _ cb]; omega
    have hs2 : bsF (up1 F i (F i - c i)) np = bsF F np - c i := by rw [bsF_up, if_pos h0.1]; omega
    rw [ih (fun x hx => by
      have h3 := h x (List.mem_cons_of_mem _ hx)
      have : x ≠ i := fun e => hn1.1 (e ▸ hx)
      rw [up1_ne _ _ this]
      exact h3) hn1.2 hF2 (by omega)]
    by_cases cj : j = i
    · subst cj
      rw [if_neg hn1.1, up1_self, if_pos List.mem_cons_self]
    · rw [up1_ne _ _ cj]
      by_cases cm : j ∈ is
      · rw [if_pos cm, if_pos (List.mem_cons_of_mem _ cm)]
      · rw [if_neg cm, if_neg (fun q => by rcases List.mem_cons.mp q with q | q; exact cj q; exact cm q)]
/-- the part of another project -/
def bbg (s : bSt) (k j : Nat) : Int := if j ≠ k ∧ s.2.1 j 7 = 1 then min (s.2.2.1 j) (bow k j s.2.2.2.1) + max 0 (s.2.2.1 j - min (s.2.2.1 j) (bow k j s.2.2.2.1) - s.2.1 j 1 * s.2.2.2.2.1 1 / 100) else 0
def bbs (s : bSt) (k : Nat) : Nat → Int
  | 0 => 0
  | n + 1 => bbs s k n + bbg s k n
/-- the greatest delay that a project bears -/
def bbr (s : bSt) (k : Nat) : Int := if s.2.1 k 7 = 1 then s.2.2.1 k + bbs s k s.1 else -1
theorem bsF_diff {F G : Nat → Int} {s : bSt} {k : Nat} : ∀ {n : Nat}, (∀ j, j < n → F j - G j = bbg s k j) → bsF F n - bsF G n = bbs s k n := by
  intro n
  induction n with
  | zero => intro _; rfl
  | succ n ih =>
    intro h
    have h1 := ih fun j hj => h j (by omega)
    have h2 := h n (by omega)
    show bsF F n + F n - (bsF G n + G n) = bbs s k n + bbg s k n
    omega
theorem bow_0 {s : bSt} {f b : Int} (hi : bIn s f b) {i j : Nat} (hj : ¬ s.2.1 j 7 = 1 ∨ i = j) : bow i j s.2.2.2.1 = 0 := by
  by_cases q2 : bpos i j s.2.2.2.1 ((0 : Nat) : Int) = -1
  · exact (bpos_none q2 (by omega)).1
  · obtain ⟨pre, y, suf, h3, h4, h5, h6, h7, h8⟩ := bpos_some q2
    have hy : y ∈ s.2.2.2.1 := by rw [h3]; simp
    have h9 := hi.opn (bkey y) (List.mem_map.mpr ⟨y, hy, rfl⟩)
    have h10 := hi.m.w.e hy
    rcases hj with hj | hj
    · exfalso
      apply hj
      rw [← h6]
      exact h9.2
    · omega
theorem bow_nn {s : bSt} {f b : Int} (hi : bIn s f b) (i j : Nat) : 0 ≤ bow i j s.2.2.2.1 := by
  by_cases q2 : bpos i j s.2.2.2.1 ((0 : Nat) : Int) = -1
  · rw [(bpos_none q2 (by omega)).1]; omega
  · obtain ⟨pre, y, suf, h3, h4, h5, h6, h7, h8⟩ := bpos_some q2
    have := hi.m.pos y (by rw [h3]; simp)
    rw [h7]; omega
section
variable {s : bSt} {f b : Int} {d t : Nat → Nat → Int32} {z asd od : Nat → Int32} {om ow ca bo la : Int32}
/-- charging more than there is -/
theorem bears_eq (hi : bIn s f b) (hf : f ≤ 310000) {k : Nat} (hk : k < s.1) (ho : s.2.1 k 7 = 1) : bowd s k 1000000 + bcad s k 1000000 + bbod s k 1000000 = bbr s k := by
  have hF := hi.m.Fr (by omega) k hk
  have hFS := hi.m.FS
  have hs := bsF_nn hi.m.F0
  have hFk := hs.2 k hk
  have e1 : bowd s k 1000000 = s.2.2.1 k := by unfold bowd; omega
  obtain ⟨hc2, hca, hcb⟩ := hi.m.c2 hk (delay := 1000000) (by omega)
  obtain ⟨hc3, hbo, hla, hsum⟩ := hi.m.c3 (by omega) hk (delay := 1000000) (by omega)
  have hc1 := hi.m.c1 hk (delay := 1000000) (by omega)
  have hFS1 := hc1.FS
  have hFS2 := hc2.FS
  have hn1 := (bsF_nn hc1.F0).1
  have hn2 := (bsF_nn hc2.F0).1
  -- what was called back
  have hcall := bcall_F (np := s.1) (k := k) (L := s.2.2.2.1) (left := 1000000 - bowd s k 1000000) (F := (bch1 s k 1000000).2.2.1) (fun e he => ⟨(hi.m.w.e he).2.1, hi.m.pos e he⟩) hc1.F0 (by omega)
  have hbig := bcall_big (np := s.1) (k := k) (L := s.2.2.2.1) (left := 1000000 - bowd s k 1000000) (F := (bch1 s k 1000000).2.2.1) (fun e he => ⟨(hi.m.w.e he).2.1, hi.m.pos e he⟩) hi.m.w.nd hc1.F0 (by
    have h1 : bsF (bch1 s k 1000000).2.2.1 s.1 = bsF s.2.2.1 s.1 + (s.2.2.1 k - bowd s k 1000000 - s.2.2.1 k) := by
      show bsF (up1 s.2.2.1 k (s.2.2.1 k - bowd s k 1000000)) s.1 = _
      rw [bsF_up, if_pos hk]
    omega)
  have hF1k : (bch1 s k 1000000).2.2.1 k = 0 := by
    show up1 s.2.2.1 k (s.2.2.1 k - bowd s k 1000000) k = 0
    rw [up1_self]; omega
  have hF1 : ∀ j, j ≠ k → (bch1 s k 1000000).2.2.1 j = s.2.2.1 j := fun j hj => up1_ne _ _ hj
  have hF2 : ∀ j, j < s.1 → (bch2 s k 1000000).2.2.1 j = (bch1 s k 1000000).2.2.1 j - min ((bch1 s k 1000000).2.2.1 j) (bow k j s.2.2.2.1) := hbig
  have hcal : bcad s k 1000000 = bsF (bch1 s k 1000000).2.2.1 s.1 - bsF (bch2 s k 1000000).2.2.1 s.1 := by
    have h1 := hcall.2.1
    have h2 : (bch2 s k 1000000).2.2.1 = (bcall k s.2.2.2.1 (1000000 - bowd s k 1000000) (bch1 s k 1000000).2.2.1).2.1 := rfl
    rw [h2, h1]
    unfold bcad bchr
    omega
  -- what was borrowed
  have hk2 : k < (bch2 s k 1000000).1 := hk
  have hsm2 := hc2.sm (by omega)
  have hbF := bbor_F hk2 (c := bcl (bch2 s k 1000000)) (js := bl5 (bch2 s k 1000000) k) (left := 1000000 - bowd s k 1000000 - bcad s k 1000000) (L := (bch2 s k 1000000).2.2.2.1) (F := (bch2 s k 1000000).2.2.1) (fun j hj => ⟨(bl5_in hj).1, (bl5_in hj).2.1, (bl5_in hj).2.2, bcl_le hsm2 (bl5_in hj).1⟩) bl5_nd hc2.w hc2.pos hc2.F0 (by omega)
  have hnp2 : (bch2 s k 1000000).1 = s.1 := rfl
  rw [hnp2] at hFS2 hn2
  have hbb := bbor_big (np := s.1) (k := k) (c := bcl (bch2 s k 1000000)) (js := bl5 (bch2 s k 1000000) k) (left := 1000000 - bowd s k 1000000 - bcad s k 1000000) (L := (bch2 s k 1000000).2.2.2.1) (F := (bch2 s k 1000000).2.2.1) (fun j hj => ⟨(bl5_in hj).1, by have := (bl5_in hj).2.2; omega, bcl_le hsm2 (bl5_in hj).1⟩) bl5_nd hc2.F0 (by
    have h1 : bsF (bch1 s k 1000000).2.2.1 s.1 = bsF s.2.2.1 s.1 + (s.2.2.1 k - bowd s k 1000000 - s.2.2.1 k) := by
      show bsF (up1 s.2.2.1 k (s.2.2.1 k - bowd s k 1000000)) s.1 = _
      rw [bsF_up, if_pos hk]
    omega)
  have hbor : bbod s k 1000000 = bsF (bch2 s k 1000000).2.2.1 s.1 - bsF (bch3 s k 1000000).2.2.1 s.1 := by
    have h1 := hbF.2.1
    rw [hnp2] at h1
    have h2 : (bch3 s k 1000000).2.2.1 = (bbor k (bcl (bch2 s k 1000000)) (bl5 (bch2 s k 1000000) k) (1000000 - bowd s k 1000000 - bcad s k 1000000) (bch2 s k 1000000).2.2.2.1 (bch2 s k 1000000).2.2.1).2.1 := rfl
    rw [h2, h1]
    unfold bbod bchb bborS
    omega
  have hopen2 : (bch2 s k 1000000).2.1 k 7 = 1 := ho
  have hF3 : ∀ j, j < s.1 → (bch3 s k 1000000).2.2.1 j = (bch2 s k 1000000).2.2.1 j - if j ≠ k then bcl (bch2 s k 1000000) j else 0 := by
    intro j hj
    have h1 := hbb j
    have h2 : (bch3 s k 1000000).2.2.1 j = (bbor k (bcl (bch2 s k 1000000)) (bl5 (bch2 s k 1000000) k) (1000000 - bowd s k 1000000 - bcad s k 1000000) (bch2 s k 1000000).2.2.2.1 (bch2 s k 1000000).2.2.1).2.1 j := rfl
    rw [h2, h1]
    have hcr := bcl_r hsm2 (k := j) hj
    have hmem : j ∈ bl5 (bch2 s k 1000000) k ↔ (j < s.1 ∧ j ≠ k ∧ 0 < bcl (bch2 s k 1000000) j) := by
      unfold bl5 bl4
      rw [if_pos hopen2, bord_mem]
      exact Iff.rfl
    by_cases cm : j ∈ bl5 (bch2 s k 1000000) k
    · rw [if_pos cm, if_pos (hmem.mp cm).2.1]
    · rw [if_neg cm]
      by_cases ck : j ≠ k
      · rw [if_pos ck]
        have : ¬ 0 < bcl (bch2 s k 1000000) j := fun q => cm (hmem.mpr ⟨hj, ck, q⟩)
        omega
      · rw [if_neg ck]; omega
  have hdiff : bsF (bch1 s k 1000000).2.2.1 s.1 - bsF (bch3 s k 1000000).2.2.1 s.1 = bbs s k s.1 := by
    refine bsF_diff fun j hj => ?_
    have h3 := hF3 j hj
    have h2 := hF2 j hj
    have hbn := bow_nn hi k j
    unfold bbg
    by_cases ck : j = k
    · subst ck
      rw [if_neg (fun q => by simp at q)] at h3
      rw [if_neg (fun q => q.1 rfl)]
      omega
    · have hFj := hi.m.F0 j hj
      rw [if_pos ck] at h3
      rw [hF1 j ck] at h2 ⊢
      have hP2 : ∀ c, (bch2 s k 1000000).2.1 j c = s.2.1 j c := fun c => rfl
      by_cases co : s.2.1 j 7 = 1
      · rw [if_pos ⟨ck, co⟩]
        have hcl : bcl (bch2 s k 1000000) j = max 0 ((bch2 s k 1000000).2.2.1 j - s.2.1 j 1 * s.2.2.2.2.1 1 / 100) := by
          have := bcl_open (s := bch2 s k 1000000) (k := j) co
          rw [← this, Int.sub_zero]
          rfl
        rw [hcl, h2] at h3
        omega
      · rw [if_neg (fun q => co q.2)]
        have hcl : bcl (bch2 s k 1000000) j = 0 := if_neg fun q => co q.1
        have hb0 := bow_0 hi (i := k) (j := j) (.inl co)
        rw [hcl] at h3
        rw [hb0] at h2
        omega
  unfold bbr
  rw [if_pos ho]
  omega
theorem f_bornBy (h : bDL s f b d z) {k : Nat} (hk : k < s.1) : bOk (fX6_bornBy z asd od om ow ca bo la (iv k)) fun r => r.1 = iv (bbr s k) ∧ bRZ r.2.1 s := by
  have hb := h.2.2.2.2.2
  have hf := h.2.2.2.2.1
  have hfl := h.fl
  unfold fX6_bornBy
  rw [f_isOpen h.Z hk (h.I.m.op k hk), bw_b1_s, ite_10]
  by_cases co : s.2.1 k 7 = 1
  · rw [if_pos co]
    obtain ⟨a', e1, e2⟩ := f_putAside z asd
    rw [e1, bw_b1_s]
    refine bOk_b7 (f_charge (delay := 1000000) h.Z h.I.m (by omega) (by omega) hk (by omega)) fun z1 od1 om1 ow1 ca1 bo1 la1 hz1 => ?_
    obtain ⟨hz1, q1, q2, q3, q4⟩ := hz1
    dsimp only at q1 q2 q3 q4
    subst q1 q2 q3 q4
    rw [bw_let_s]
    obtain ⟨z2, e3, e4⟩ := f_putBack z1 a'
    rw [e3, bw_b1_s]
    have hz2 : bRZ z2 s := h.Z.congr fun j hj => by rw [e4 j hj, e2 j hj]
    refine bOk_s ⟨?_, hz2⟩
    have hbe := bears_eq h.I hfl hk co
    obtain ⟨hc3, hbo, hla, hsum⟩ := h.I.m.c3 (by omega) hk (delay := 1000000) (by omega)
    show (1000000 : Int32) - iv (blad s k 1000000) = iv (bbr s k)
    rw [show (1000000 : Int32) = iv 1000000 from rfl, iv_sub]
    exact congrArg iv (by omega)
  · rw [if_neg co]
    refine bOk_s ⟨?_, h.Z⟩
    unfold bbr
    rw [if_neg co]
    rfl
theorem l_xbear (h : bDL s f b d z) {k : Nat} (hk : k < s.1) : ∀ (e n j : Nat), j + e = s.1 → e < n → lX0_bearableDelay_22 (d 0) (d 2) (d 3) (iv s.1) (d 5 1) (iv k) n (iv (s.2.2.1 k + bbs s k j)) (iv j) = some (iv (s.2.2.1 k + bbs s k s.1)) := by
  have hX := h.X
  have h6 := hX.n6
  have hfl := h.fl
  have hb := h.2.2.2.2.2
  have hf := h.2.2.2.2.1
  intro e
  induction e with
  | zero =>
    intro n j hj hn
    cases n with
    | zero => omega
    | succ n =>
      show bX0_bearableDelay_22 (lX0_bearableDelay_22 (d 0) (d 2) (d 3) (iv s.1) (d 5 1) (iv k) n) (d 0) (d 2) (d 3) (iv s.1) (d 5 1) (iv k) (iv (s.2.2.1 k + bbs s k j)) (iv j) = _
      unfold bX0_bearableDelay_22
      rw [ite_le (r32n (by omega)) (r32n (by omega)), if_pos (by omega), show j = s.1 by omega]
  | succ e ih =>
    intro n j hj hn
    cases n with
    | zero => omega
    | succ n =>
      have hjn : j < s.1 := by omega
      have hj1 := ih n (j + 1) (by omega) (by omega)
      have eb : bbs s k (j + 1) = bbs s k j + bbg s k j := rfl
      rw [eb] at hj1
      show bX0_bearableDelay_22 (lX0_bearableDelay_22 (d 0) (d 2) (d 3) (iv s.1) (d 5 1) (iv k) n) (d 0) (d 2) (d 3) (iv s.1) (d 5 1) (iv k) (iv (s.2.2.1 k + bbs s k j)) (iv j) = _
      unfold bX0_bearableDelay_22 jX0_bearableDelay_76
      simp only [bw_let_s]
      rw [ite_le (r32n (by omega)) (r32n (by omega)), if_neg (by omega), if_eq_iv (by omega) (by omega), iv_succ]
      by_cases ck : j = k
      · rw [if_pos ck]
        have : bbg s k j = 0 := if_neg fun q => q.1 ck
        rw [this, Int.add_zero] at hj1
        exact hj1
      · rw [if_neg ck, x_isOpen hX.xs (by omega) (h.I.m.op j hjn), bw_b1_s, ite_10]
        by_cases co : s.2.1 j 7 = 1
        · have hbg : bbg s k j = min (s.2.2.1 j) (bow k j s.2.2.2.1) + max 0 (s.2.2.1 j - min (s.2.2.1 j) (bow k j s.2.2.2.1) - s.2.1 j 1 * s.2.2.2.2.1 1 / 100) := if_pos ⟨ck, co⟩
          have hF := h.I.m.Fr (by omega) j hjn
          have hbn := bow_nn h.I k j
          have hbr : bow k j s.2.2.2.1 ≤ 1000000000 := by
            by_cases q : bpos k j s.2.2.2.1 ((0 : Nat) : Int) = -1
            · rw [(bpos_none q (by omega)).1]; omega
            · obtain ⟨pre, e, suf, h3, h4, h5, h6', h7, h8⟩ := bpos_some q
              have := h.I.pd (by omega) e (by rw [h3]; simp)
              rw [h7]; omega
          rw [if_pos co, hX.x.t.g (by omega) 2 (by omega), bw_b1_s, show bT (bTP s.2.1) s.2.2.1 s.2.2.2.1 j 2 = s.2.2.1 j from rfl, x_daysOwed (a := k) (b := j) (by omega) (by omega) h.I.ab6 hX.x.l, bw_b1_s, iv_min (r32i (by omega) (by omega)) (r32i (by omega) (by omega)), x_lendable hX.xs (h.I.sm (by omega)) h6 hjn (by omega), bw_b1_s, iv_add, iv_add, ← hbg, Int.add_assoc]
          exact hj1
        · rw [if_neg co]
          have : bbg s k j = 0 := if_neg fun q => co q.2
          rw [this, Int.add_zero] at hj1
          exact hj1
theorem x_bears (h : bDL s f b d z) {k : Nat} (hk : k < s.1) : fX0_bearableDelay (d 0) (d 2) (d 3) (d 5 0) (d 5 1) (iv k) = some (iv (bbr s k)) := by
  have hX := h.X
  have h6 := hX.n6
  unfold fX0_bearableDelay
  rw [x_isOpen hX.xs (by omega) (h.I.m.op k hk), bw_b1_s, ite_10]
  unfold bbr
  by_cases co : s.2.1 k 7 = 1
  · rw [if_pos co, if_pos co, hX.x.t.g (by omega) 2 (by omega), bw_b1_s, show bT (bTP s.2.1) s.2.2.1 s.2.2.2.1 k 2 = s.2.2.1 k from rfl, hX.n]
    have := l_xbear h hk s.1 bw_fu 0 (by omega) (by unfold bw_fu; omega)
    have e0 : bbs s k 0 = 0 := rfl
    rw [e0, Int.add_zero] at this
    exact this
  · rw [if_neg co, if_neg co]
    rfl
theorem op_bears (h : bDL s f b d z) (th p1 : Int32) : bOk (fX5_bears d p1) fun c => bOk (fX6_bears z asd th od om ow ca bo la p1) fun m => bAg bk1 c.1 c.2 m.1 m.2.2.2.1 ∧ bRZ m.2.1 s := by
  have hp1 := r32_of p1
  rw [← iv_of p1]
  generalize p1.toInt = p at hp1 ⊢
  unfold fX5_bears fX6_bears fX6_fails
  simp only [f_needProject h.1 hp1, f_isProject h.Z hp1, bw_b1_s, bw_b2_s, ite_10, ite_01]
  by_cases c1 : 0 ≤ p ∧ p ≤ (s.1 : Int) - 1
  · obtain ⟨k, rfl, hk⟩ := isP c1
    rw [if_pos c1, if_pos c1, thn0, x_bears h hk, bw_b1_s]
    refine bOk_s (bOk_b9 (f_bornBy h hk) fun r2 z2 _ _ _ _ _ _ _ h2 => bOk_s ⟨.inl ⟨rfl, rfl, h2.1.symm⟩, h2.2⟩)
  · rw [if_neg c1, if_neg c1, thn1 _ _ _ (by omega)]
    exact bOk_s (bOk_s ⟨.inr ⟨by simp, by simp, by simp [bk1], by simp [bk1]⟩, h.Z⟩)
end
