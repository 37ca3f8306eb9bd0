/- needs: 10_base 11_kit 12_refw 13_refs 14_refl 15_pay 16_order 17_charge -/
/-! ===== a task is done ===== -/
abbrev bMi (s : bSt) (f b : Int) : Prop := (s.1 ≤ 6) ∧ (bLw s.1 s.2.2.2.1) ∧ (∀ e ∈ s.2.2.2.1, 0 < e.2.2) ∧ (∀ k, k < s.1 → s.2.1 k 7 = 0 ∨ s.2.1 k 7 = 1) ∧ (∀ k, k < s.1 → 1 ≤ s.2.1 k 0 ∧ s.2.1 k 0 ≤ 9) ∧ (∀ k, k < s.1 → 0 ≤ s.2.1 k 1 ∧ s.2.1 k 1 ≤ 99) ∧ (∀ k, k < s.1 → 0 ≤ s.2.2.1 k) ∧ (bsF s.2.2.1 s.1 ≤ f) ∧ (bsum s.2.2.2.1 ≤ b) ∧ (0 ≤ s.2.2.2.2.1 0 ∧ s.2.2.2.2.1 0 ≤ 2) ∧ (0 ≤ s.2.2.2.2.1 1 ∧ s.2.2.2.2.1 1 ≤ 100) ∧ (0 ≤ s.2.2.2.2.1 2 ∧ s.2.2.2.2.1 2 ≤ 100)
theorem bMi.n6 {s : bSt} {f b : Int} (h__ : bMi s f b) : s.1 ≤ 6 := h__.1
theorem bMi.w {s : bSt} {f b : Int} (h__ : bMi s f b) : bLw s.1 s.2.2.2.1 := h__.2.1
theorem bMi.pos {s : bSt} {f b : Int} (h__ : bMi s f b) : ∀ e ∈ s.2.2.2.1, 0 < e.2.2 := h__.2.2.1
theorem bMi.op {s : bSt} {f b : Int} (h__ : bMi s f b) : ∀ k, k < s.1 → s.2.1 k 7 = 0 ∨ s.2.1 k 7 = 1 := h__.2.2.2.1
theorem bMi.rk {s : bSt} {f b : Int} (h__ : bMi s f b) : ∀ k, k < s.1 → 1 ≤ s.2.1 k 0 ∧ s.2.1 k 0 ≤ 9 := h__.2.2.2.2.1
theorem bMi.bf {s : bSt} {f b : Int} (h__ : bMi s f b) : ∀ k, k < s.1 → 0 ≤ s.2.1 k 1 ∧ s.2.1 k 1 ≤ 99 := h__.2.2.2.2.2.1
theorem bMi.F0 {s : bSt} {f b : Int} (h__ : bMi s f b) : ∀ k, k < s.1 → 0 ≤ s.2.2.1 k := h__.2.2.2.2.2.2.1
theorem bMi.FS {s : bSt} {f b : Int} (h__ : bMi s f b) : bsF s.2.2.1 s.1 ≤ f := h__.2.2.2.2.2.2.2.1
theorem bMi.LS {s : bSt} {f b : Int} (h__ : bMi s f b) : bsum s.2.2.2.1 ≤ b := h__.2.2.2.2.2.2.2.2.1
theorem bMi.s0 {s : bSt} {f b : Int} (h__ : bMi s f b) : 0 ≤ s.2.2.2.2.1 0 ∧ s.2.2.2.2.1 0 ≤ 2 := h__.2.2.2.2.2.2.2.2.2.1
theorem bMi.s1 {s : bSt} {f b : Int} (h__ : bMi s f b) : 0 ≤ s.2.2.2.2.1 1 ∧ s.2.2.2.2.1 1 ≤ 100 := h__.2.2.2.2.2.2.2.2.2.2.1
theorem bMi.s2 {s : bSt} {f b : Int} (h__ : bMi s f b) : 0 ≤ s.2.2.2.2.1 2 ∧ s.2.2.2.2.1 2 ≤ 100 := h__.2.2.2.2.2.2.2.2.2.2.2
section
variable {s : bSt} {f b : Int}
theorem bMi.sm (h : bMi s f b) (hf : f ≤ 1000000) : bSm s := ⟨h.w.lok, h.op, h.rk, h.bf, fun k hk => ⟨h.F0 k hk, by have := (bsF_nn h.F0).2 k hk; have := h.FS; omega⟩, h.s0, h.s1⟩
theorem bMi.lt (h : bMi s f b) (hb : b ≤ 1000000000) : ∀ k, 0 ≤ blent k s.2.2.2.1 ∧ blent k s.2.2.2.1 ≤ 2000000000 := by
  intro k
  have := blent_r (k := k) h.pos
  have := h.LS
  omega
theorem bMi.ld (h : bMi s f b) (hb : b ≤ 1000000000) : bLd s.1 s.2.2.2.1 := by
  intro e he
  have h1 := h.w.e he
  have h2 := (bsum_nn h.pos).2 e he
  have h3 := h.LS
  exact ⟨h1.1, h1.2.1, h.pos e he, by omega⟩
theorem bMi.Fr (h : bMi s f b) (hf : f ≤ 1000000) : ∀ j, j < s.1 → 0 ≤ s.2.2.1 j ∧ s.2.2.1 j ≤ 1000000 := fun k hk => ⟨h.F0 k hk, by have := (bsF_nn h.F0).2 k hk; have := h.FS; omega⟩
/-- only the loans and the days left are other ones -/
theorem bMi.fl (h : bMi s f b) {L : List bLn} {F : Nat → Int} {f' b' : Int} (hw : bLw s.1 L) (hp : ∀ e ∈ L, 0 < e.2.2) (hF : ∀ k, k < s.1 → 0 ≤ F k) (hs : bsF F s.1 ≤ f') (hb : bsum L ≤ b') : bMi (s.1, s.2.1, F, L, s.2.2.2.2.1, s.2.2.2.2.2) f' b' := ⟨h.n6, hw, hp, h.op, h.rk, h.bf, hF, hs, hb, h.s0, h.s1, h.s2⟩
theorem bMi.pay (h : bMi s f b) {k : Nat} (hk : k < s.1) (most : Int) : bMi (bpayA s k most) f b := by
  have h1 := bpay_p (b := k) (left := min most (s.2.2.1 k)) (F := s.2.2.1) h.pos
  have h2 := bpay_F hk (L := s.2.2.2.1) (left := min most (s.2.2.1 k)) (F := s.2.2.1) (fun e he => ⟨(h.w.e he).1, (h.w.e he).2.2, h.pos e he⟩) h.F0 (by omega)
  exact h.fl (h.w.sub bpay_s) h1.1 h2.1 (by rw [h2.2]; exact h.FS) (by have := h.LS; have := h1.2; omega)
/-! what a delay is charged to -/
def bowd (s : bSt) (k : Nat) (delay : Int) : Int := min delay (s.2.2.1 k)
def bch1 (s : bSt) (k : Nat) (delay : Int) : bSt := (s.1, s.2.1, up1 s.2.2.1 k (s.2.2.1 k - bowd s k delay), s.2.2.2.1, s.2.2.2.2.1, s.2.2.2.2.2)
def bchr (s : bSt) (k : Nat) (delay : Int) : List bLn × (Nat → Int) × Int := bcall k s.2.2.2.1 (delay - bowd s k delay) (bch1 s k delay).2.2.1
def bcad (s : bSt) (k : Nat) (delay : Int) : Int := delay - bowd s k delay - (bchr s k delay).2.2
def bch2 (s : bSt) (k : Nat) (delay : Int) : bSt := (s.1, s.2.1, (bchr s k delay).2.1, (bchr s k delay).1, s.2.2.2.2.1, s.2.2.2.2.2)
def bchb (s : bSt) (k : Nat) (delay : Int) : List bLn × (Nat → Int) × Int := bborS (bch2 s k delay) k (delay - bowd s k delay - bcad s k delay)
def bbod (s : bSt) (k : Nat) (delay : Int) : Int := delay - bowd s k delay - bcad s k delay - (bchb s k delay).2.2
def blad (s : bSt) (k : Nat) (delay : Int) : Int := (bchb s k delay).2.2
def bch3 (s : bSt) (k : Nat) (delay : Int) : bSt := (s.1, s.2.1, (bchb s k delay).2.1, (bchb s k delay).1, s.2.2.2.2.1, s.2.2.2.2.2)
def bchS (s : bSt) (k : Nat) (delay : Int) : bSt := ((bch3 s k delay).1, up2 (up2 s.2.1 k 3 (s.2.1 k 3 + (bowd s k delay + bcad s k delay + bbod s k delay))) k 4 (s.2.1 k 4 + blad s k delay), (bch3 s k delay).2.2.1, (bch3 s k delay).2.2.2.1, (bch3 s k delay).2.2.2.2.1, (bch3 s k delay).2.2.2.2.2)
theorem bMi.c1 (h : bMi s f b) {k : Nat} (hk : k < s.1) {delay : Int} (hd : 0 ≤ delay) : bMi (bch1 s k delay) f b := by
  have h0 := h.F0 k hk
  have hv : 0 ≤ bowd s k delay ∧ bowd s k delay ≤ s.2.2.1 k := by unfold bowd; omega
  unfold bch1
  refine h.fl h.w h.pos (fun j hj => ?_) ?_ h.LS
  · have := h.F0 j hj
    by_cases c : j = k
    · subst c; rw [up1_self]; omega
    · rw [up1_ne _ _ c]; exact this
  · rw [bsF_up, if_pos hk]
    have := h.FS
    omega
theorem bMi.c2 (h : bMi s f b) {k : Nat} (hk : k < s.1) {delay : Int} (hd : 0 ≤ delay) : bMi (bch2 s k delay) f b ∧ 0 ≤ bcad s k delay ∧ bcad s k delay ≤ delay - bowd s k delay := by
  have h1 := h.c1 hk hd
  have h0 := h.F0 k hk
  have hv : 0 ≤ bowd s k delay ∧ bowd s k delay ≤ delay := by unfold bowd; omega
  obtain ⟨i1, i2, i3, i4, i5, i6⟩ := bcall_F (np := s.1) (k := k) (L := s.2.2.2.1) (left := delay - bowd s k delay) (F := (bch1 s k delay).2.2.1) (fun e he => ⟨(h.w.e he).2.1, h.pos e he⟩) h1.F0 (by omega)
  have hFS := h1.FS
  have hLS := h.LS
  have hnp : (bch1 s k delay).1 = s.1 := rfl
  rw [hnp] at hFS
  refine ⟨h.fl (h.w.sub bcall_s) i5 (fun j hj => (i1 j hj).1) ?_ ?_, ?_, ?_⟩
  · show bsF (bcall k s.2.2.2.1 (delay - bowd s k delay) (bch1 s k delay).2.2.1).2.1 s.1 ≤ f
    omega
  · show bsum (bcall k s.2.2.2.1 (delay - bowd s k delay) (bch1 s k delay).2.2.1).1 ≤ b
    omega
  · unfold bcad bchr; omega
  · unfold bcad bchr; omega
theorem bMi.c3 (h : bMi s f b) (hf : f ≤ 1000000) {k : Nat} (hk : k < s.1) {delay : Int} (hd : 0 ≤ delay) : bMi (bch3 s k delay) f (b + f) ∧ 0 ≤ bbod s k delay ∧ 0 ≤ blad s k delay ∧ bowd s k delay + bcad s k delay + bbod s k delay + blad s k delay = delay := by
  obtain ⟨h2, hc1, hc2⟩ := h.c2 hk hd
  have hk2 : k < (bch2 s k delay).1 := hk
  have hsm := h2.sm hf
  obtain ⟨i1, i2, i3, i4, i5, i6, i7⟩ := bbor_F hk2 (c := bcl (bch2 s k delay)) (js := bl5 (bch2 s k delay) k) (left := delay - bowd s k delay - bcad s k delay) (L := (bch2 s k delay).2.2.2.1) (F := (bch2 s k delay).2.2.1) (fun j hj => ⟨(bl5_in hj).1, (bl5_in hj).2.1, (bl5_in hj).2.2, bcl_le hsm (bl5_in hj).1⟩) bl5_nd h2.w h2.pos h2.F0 (by omega)
  have hFS := h2.FS
  have hLS := h2.LS
  have hn := (bsF_nn (fun j hj => (i1 j hj).1)).1
  refine ⟨h.fl i5 i6 (fun j hj => (i1 j hj).1) ?_ ?_, ?_, ?_, ?_⟩
  · show bsF (bbor k (bcl (bch2 s k delay)) (bl5 (bch2 s k delay) k) (delay - bowd s k delay - bcad s k delay) (bch2 s k delay).2.2.2.1 (bch2 s k delay).2.2.1).2.1 (bch2 s k delay).1 ≤ f
    omega
  · show bsum (bbor k (bcl (bch2 s k delay)) (bl5 (bch2 s k delay) k) (delay - bowd s k delay - bcad s k delay) (bch2 s k delay).2.2.2.1 (bch2 s k delay).2.2.1).1 ≤ b + f
    omega
  · unfold bbod bchb bborS; omega
  · unfold blad bchb bborS; omega
  · unfold bbod blad; omega
theorem up2_op {P : Nat → Nat → Int} {k c : Nat} {v : Int} (c' : Nat) (j : Nat) (h : c' ≠ c) : up2 P k c v j c' = P j c' := up2_c _ _ _ _ h
/-- a column that nothing here looks at -/
theorem bMi.col (h : bMi s f b) {k c : Nat} (v : Int) (h0 : c ≠ 0) (h1 : c ≠ 1) (h7 : c ≠ 7) : bMi (s.1, up2 s.2.1 k c v, s.2.2.1, s.2.2.2.1, s.2.2.2.2.1, s.2.2.2.2.2) f b := by
  refine ⟨h.n6, h.w, h.pos, fun j hj => ?_, fun j hj => ?_, fun j hj => ?_, h.F0, h.FS, h.LS, h.s0, h.s1, h.s2⟩ <;> dsimp only
  · rw [up2_op 7 j (Ne.symm h7)]; exact h.op j hj
  · rw [up2_op 0 j (Ne.symm h0)]; exact h.rk j hj
  · rw [up2_op 1 j (Ne.symm h1)]; exact h.bf j hj
theorem bMi.chS (h : bMi s f b) (hf : f ≤ 1000000) {k : Nat} (hk : k < s.1) {delay : Int} (hd : 0 ≤ delay) : bMi (bchS s k delay) f (b + f) := by
  have h3 := ((h.c3 hf hk hd).1.col (k := k) (c := 3) (s.2.1 k 3 + (bowd s k delay + bcad s k delay + bbod s k delay)) (by omega) (by omega) (by omega)).col (k := k) (c := 4) (s.2.1 k 4 + blad s k delay) (by omega) (by omega) (by omega)
  exact h3
theorem f_charge {z : Nat → Int32} (h : bRZ z s) (hi : bMi s f b) (hf : f ≤ 1000000) (hb : b ≤ 1000000000) {k : Nat} (hk : k < s.1) {od : bw_A1} {om ow ca bo la : Int32} {delay : Int} (hd : 0 ≤ delay ∧ delay ≤ 1000000) : bOk (fX6_charge z od om ow ca bo la (iv k) (iv delay)) fun r => bRZ r.1 (bchS s k delay) ∧ r.2.2.2.1 = iv (bowd s k delay) ∧ r.2.2.2.2.1 = iv (bcad s k delay) ∧ r.2.2.2.2.2.1 = iv (bbod s k delay) ∧ r.2.2.2.2.2.2 = iv (blad s k delay) := by
  have hF := hi.Fr hf k hk
  have hi1 := hi.c1 hk hd.1
  obtain ⟨hi2, hc1, hc2⟩ := hi.c2 hk hd.1
  obtain ⟨hi3, hc3, hc4, hc5⟩ := hi.c3 hf hk hd.1
  have hv : 0 ≤ bowd s k delay ∧ bowd s k delay ≤ delay := by unfold bowd; omega
  unfold fX6_charge
  rw [f_at, bw_b1_s, h.rF hk, bw_b1_s, f_least (r32i (by omega) (by omega)) (r32i (by omega) (by omega)), bw_b1_s, bw_b1_s, iv_sub]
  refine bOk_b1 (h.wF hk _) fun z1 h1 => ?_
  rw [iv_sub]
  refine bOk_b2 (f_callBack (s := bch1 s k delay) h1 (hi1.ld (by omega)) hk (fun j hj => by have := hi1.Fr hf j hj; omega) (left := delay - bowd s k delay) (by omega)) fun z2 ca2 h2 => ?_
  obtain ⟨h2, e2⟩ := h2
  dsimp only at h2 e2
  have e2' : ca2 = iv (bcad s k delay) := e2
  subst e2'
  rw [show iv (delay - min delay (s.2.2.1 k)) = iv (delay - bowd s k delay) from rfl, iv_sub]
  refine bOk_b5 (f_borrow (s := bch2 s k delay) h2 hi2.w (hi2.sm hf) (hi2.lt hb) hk (left := delay - bowd s k delay - bcad s k delay) (by omega)) fun z3 od3 om3 bo3 la3 h3 => ?_
  obtain ⟨h3, e3, e4⟩ := h3
  dsimp only at h3 e3 e4
  subst e3 e4
  have h3' : bRZ z3 (bch3 s k delay) := h3
  rw [h3'.rP hk 3 (by omega) (by omega), bw_b1_s]
  simp only [iv_add]
  refine bOk_b1 (h3'.wP hk 3 (by omega) (by omega) _) fun z4 h4 => ?_
  rw [h4.rP hk 4 (by omega) (by omega), bw_b1_s, iv_add]
  refine bOk_b1 (h4.wP hk 4 (by omega) (by omega) _) fun z5 h5 => bOk_s ⟨?_, rfl, rfl, rfl, rfl⟩
  dsimp only at h5
  rw [up2_c _ _ _ _ (by omega)] at h5
  exact h5
end
