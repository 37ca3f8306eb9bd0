/- needs: 10_base 11_kit 12_refw 13_refs 14_refl 15_pay 16_order 17_charge 18_donow 19_donow2 20_tab 21_xpay 22_xqueue 23_xborrow 24_xdo -/
/-! ===== the class: a task is done, the whole step ===== -/
theorem iv_max0 {b : Int} (hb : r32 b) : bw_max 0 (iv b) = iv (max 0 b) := iv_max (a := 0) (r32i (by omega) (by omega)) hb
theorem bXL.i {tp tl : Nat → Int32} {nl : Int32} {T : Nat → Nat → Int} {F : Nat → Int} {L : List bLn} (h : bXL tp tl nl T F L) {k : Nat} (hk : k < 6) (c : Nat) (hc : c < 14) (h2 : c ≠ 2) (h4 : c ≠ 4) (h5 : c ≠ 5) (v : Int) : bOk (fX3_increase 84 14 tp (iv k) (OfNat.ofNat c) (iv v)) fun tp' => bXL tp' tl nl (up2 T k c (T k c + v)) F L := by
  refine bOk_m (h.t.i hk c hc v) fun tp' h' => ⟨h'.congr fun j e hj he => ?_, h.l⟩
  unfold bT up2
  by_cases q : j = k ∧ e = c
  · obtain ⟨q1, q2⟩ := q
    subst q1 q2
    simp [h2, h4, h5]
  · simp [q]
theorem bXL.p {tp tl : Nat → Int32} {nl : Int32} {T : Nat → Nat → Int} {F : Nat → Int} {L : List bLn} (h : bXL tp tl nl T F L) {k : Nat} (hk : k < 6) (c : Nat) (hc : c < 14) (h2 : c ≠ 2) (h4 : c ≠ 4) (h5 : c ≠ 5) (v : Int) : bOk (fX3_put 84 14 tp (iv k) (OfNat.ofNat c) (iv v)) fun tp' => bXL tp' tl nl (up2 T k c v) F L := by
  refine bOk_m (h.t.p hk c hc v) fun tp' h' => ⟨h'.congr fun j e hj he => ?_, h.l⟩
  unfold bT up2
  by_cases q : j = k ∧ e = c
  · obtain ⟨q1, q2⟩ := q
    subst q1 q2
    simp [h2, h4, h5]
  · simp [q]
section
variable {s : bSt} {f b : Int} {k : Nat} {days : Int}
/-- the state behind the days spared -/
def bs1 (s : bSt) (k : Nat) (days sp : Int) : bSt := ((bd0 s k days).1, (bd0 s k days).2.1, up1 s.2.2.1 k (s.2.2.1 k - -sp), (bd0 s k days).2.2.2.1, (bd0 s k days).2.2.2.2.1, (bd0 s k days).2.2.2.2.2)
def bsA (s : bSt) (k : Nat) (days sp : Int) : bSt := ((bs1 s k days sp).1, (bs1 s k days sp).2.1, (bpay k s.2.2.2.1 sp (bs1 s k days sp).2.2.1).2, (bpay k s.2.2.2.1 sp (bs1 s k days sp).2.2.1).1, (bs1 s k days sp).2.2.2.2.1, (bs1 s k days sp).2.2.2.2.2)
theorem bsA_pay (hF : 0 ≤ s.2.2.1 k) {sp : Int} (hs : 0 ≤ sp) : bsA s k days sp = bpayA (bs1 s k days sp) k sp := by
  have e : min sp ((bs1 s k days sp).2.2.1 k) = sp := by
    show min sp (up1 s.2.2.1 k (s.2.2.1 k - -sp) k) = sp
    rw [up1_self]; omega
  unfold bpayA
  rw [e]
  rfl
theorem bMi.sB (h : bMi s f b) (hk : k < s.1) {sp : Int} (hs : 0 ≤ sp ∧ sp ≤ 60) : bMi (bs1 s k days sp) (f + 60) b := by
  refine (h.d0 (k := k) (days := days)).fl h.w h.pos (fun j hj => ?_) ?_ h.LS
  · have := h.F0 j hj
    by_cases c : j = k
    · subst c; rw [up1_self]; omega
    · rw [up1_ne _ _ c]; exact this
  · show bsF (up1 s.2.2.1 k (s.2.2.1 k - -sp)) s.1 ≤ f + 60
    rw [bsF_up, if_pos hk]
    have := h.FS
    omega
theorem bMi.sA (h : bMi s f b) (hk : k < s.1) {sp : Int} (hs : 0 ≤ sp ∧ sp ≤ 60) : bMi (bsA s k days sp) (f + 60) b := by
  rw [bsA_pay (h.F0 k hk) hs.1]
  exact (h.sB hk hs).pay hk sp
/-- both ways of a day's count are one -/
theorem bdA_uni (hF : ∀ j, j < s.1 → 0 ≤ s.2.2.1 j) (hk : k < s.1) (hA : ∀ sp, 0 ≤ sp ∧ sp ≤ 60 → 0 ≤ (bsA s k days sp).2.2.1 k) (hp : 1 ≤ s.2.1 k (10 + btn s k) ∧ s.2.1 k (10 + btn s k) ≤ 60) (hd : 0 ≤ days) {sp dl : Int} (esp : sp = max 0 (s.2.1 k (10 + btn s k) - days)) (edl : dl = max 0 (days - s.2.1 k (10 + btn s k))) :
    (bdA s k days).2.2.1 = (bch3 (bsA s k days sp) k dl).2.2.1 ∧ (bdA s k days).2.2.2.1 = (bch3 (bsA s k days sp) k dl).2.2.2.1 ∧ bdow s k days = bowd (bsA s k days sp) k dl ∧ bdca s k days = bcad (bsA s k days sp) k dl ∧ bdbo s k days = bbod (bsA s k days sp) k dl ∧ bdla s k days = blad (bsA s k days sp) k dl ∧ (bdA s k days).2.1 = up2 (up2 (bd0 s k days).2.1 k 3 (s.2.1 k 3 + (-sp + bowd (bsA s k days sp) k dl + bcad (bsA s k days sp) k dl + bbod (bsA s k days sp) k dl))) k 4 (s.2.1 k 4 + blad (bsA s k days sp) k dl) := by
  have hFk := hF k hk
  have e3 : (bd0 s k days).2.1 k 3 = s.2.1 k 3 := bd0_P _ _ (by omega)
  have e4 : (bd0 s k days).2.1 k 4 = s.2.1 k 4 := bd0_P _ _ (by omega)
  unfold bdow bdca bdbo bdla bdA
  by_cases c : bby s k days ≤ 0
  · rw [if_pos c, if_pos c, if_pos c, if_pos c, if_pos c]
    have hb : sp = -bby s k days ∧ dl = 0 := by unfold bby at c ⊢; omega
    have hsp : 0 ≤ sp ∧ sp ≤ 60 := by omega
    have hA' := hA sp hsp
    rw [hb.2, bch3_0 hA', bowd_0 hA', bcad_0 hA', bbod_0 hA', blad_0 hA', bsA_pay hFk hsp.1]
    have e1 : -bby s k days = sp := by omega
    have e2 : s.2.2.1 k - bby s k days = s.2.2.1 k - -sp := by omega
    refine ⟨?_, ?_, rfl, rfl, rfl, rfl, ?_⟩
    · unfold bdE
      rw [e1]
      show (bpay k s.2.2.2.1 (min sp (up1 s.2.2.1 k (s.2.2.1 k - bby s k days) k)) (up1 s.2.2.1 k (s.2.2.1 k - bby s k days))).2 = (bpay k s.2.2.2.1 (min sp (up1 s.2.2.1 k (s.2.2.1 k - -sp) k)) (up1 s.2.2.1 k (s.2.2.1 k - -sp))).2
      rw [e2]
    · unfold bdE
      rw [e1]
      show (bpay k s.2.2.2.1 (min sp (up1 s.2.2.1 k (s.2.2.1 k - bby s k days) k)) (up1 s.2.2.1 k (s.2.2.1 k - bby s k days))).1 = (bpay k s.2.2.2.1 (min sp (up1 s.2.2.1 k (s.2.2.1 k - -sp) k)) (up1 s.2.2.1 k (s.2.2.1 k - -sp))).1
      rw [e2]
    · show up2 (bd0 s k days).2.1 k 3 ((bd0 s k days).2.1 k 3 + bby s k days) = _
      rw [up2_id _ k 4 (by rw [up2_c _ _ _ _ (by omega), e4]; omega), e3]
      congr 1
      omega
  · rw [if_neg c, if_neg c, if_neg c, if_neg c, if_neg c]
    have hb : sp = 0 ∧ dl = bby s k days := by unfold bby at c ⊢; omega
    have eA : bsA s k days sp = bd0 s k days := by
      unfold bsA bs1
      rw [hb.1]
      dsimp only
      rw [up1_id _ _ (by omega), bpay_0]
      rfl
    rw [eA, hb.2]
    refine ⟨rfl, rfl, rfl, rfl, rfl, rfl, ?_⟩
    show up2 (up2 (bd0 s k days).2.1 k 3 ((bd0 s k days).2.1 k 3 + (bowd (bd0 s k days) k (bby s k days) + bcad (bd0 s k days) k (bby s k days) + bbod (bd0 s k days) k (bby s k days)))) k 4 ((bd0 s k days).2.1 k 4 + blad (bd0 s k days) k (bby s k days)) = _
    rw [e3, e4]
    congr 2
    omega
/-- the columns of the state behind a task -/
theorem bdB_T (h6 : 0 ≤ s.2.1 k 6) (h58 : s.2.1 k 5 ≤ 8) (ht : btn s k < 8) {sp ow ca bo la : Int} (hP : (bdA s k days).2.1 = up2 (up2 (bd0 s k days).2.1 k 3 (s.2.1 k 3 + (-sp + ow + ca + bo))) k 4 (s.2.1 k 4 + la)) (j c : Nat) (hc : c < 14) :
    bTP (bdB s k days).2.1 j c = if j = k then (if c = 8 then s.2.1 k 6 + 1 else if c = 13 then bsP s.2.1 k 18 (s.2.1 k 6).toNat + days else if c = 3 then s.2.1 k 3 + (-sp + ow + ca + bo) else if c = 6 then s.2.1 k 4 + la else bTP s.2.1 k c) else bTP s.2.1 j c := by
  have hPd : ∀ j c, (bdB s k days).2.1 j c = bdP (up2 (up2 (up2 s.2.1 k (18 + btn s k) days) k 3 (s.2.1 k 3 + (-sp + ow + ca + bo))) k 4 (s.2.1 k 4 + la)) k (btn s k) (bdow s k days) (bdca s k days) (bdbo s k days) (bdla s k days) (s.2.1 k 6 + 1) j c := by
    intro j c
    show bdP (bdA s k days).2.1 k (btn s k) _ _ _ _ _ j c = _
    rw [hP]
    rfl
  by_cases e : j = k
  · subst e
    rw [if_pos rfl]
    have hlow : ∀ c, c < 26 → c ≠ 6 → c ≠ 3 → c ≠ 4 → c ≠ 18 + btn s j → (bdB s j days).2.1 j c = s.2.1 j c := by
      intro c q1 q2 q3 q4 q5
      rw [hPd, bdP_c _ _ _ _ _ _ _ _ _ _ q2 q1, up2_c _ _ _ _ q4, up2_c _ _ _ _ q3, up2_c _ _ _ _ q5]
    have h3 : (bdB s j days).2.1 j 3 = s.2.1 j 3 + (-sp + ow + ca + bo) := by
      rw [hPd, bdP_c _ _ _ _ _ _ _ _ _ _ (by omega) (by omega), up2_c _ _ _ _ (by omega), up2_self]
    have h4 : (bdB s j days).2.1 j 4 = s.2.1 j 4 + la := by
      rw [hPd, bdP_c _ _ _ _ _ _ _ _ _ _ (by omega) (by omega), up2_self]
    have h6' : (bdB s j days).2.1 j 6 = s.2.1 j 6 + 1 := by
      rw [hPd]; exact up2_self _ _ _ _
    have h12 : bsP (bdB s j days).2.1 j 10 ((bdB s j days).2.1 j 5).toNat = bsP s.2.1 j 10 (s.2.1 j 5).toNat := by
      rw [hlow 5 (by omega) (by omega) (by omega) (by omega) (by omega)]
      exact bsP_congr fun t ht => hlow _ (by omega) (by omega) (by omega) (by omega) (by omega)
    have h13 : bsP (bdB s j days).2.1 j 18 ((bdB s j days).2.1 j 6).toNat = bsP s.2.1 j 18 (s.2.1 j 6).toNat + days := by
      rw [h6', show (s.2.1 j 6 + 1).toNat = btn s j + 1 by unfold btn; omega]
      show bsP (bdB s j days).2.1 j 18 (btn s j) + (bdB s j days).2.1 j (18 + btn s j) = _
      have e1 : (bdB s j days).2.1 j (18 + btn s j) = days := by
        rw [hPd, bdP_c _ _ _ _ _ _ _ _ _ _ (by omega) (by omega), up2_c _ _ _ _ (by omega), up2_c _ _ _ _ (by omega), up2_self]
      rw [e1, bsP_congr (P := (bdB s j days).2.1) (P' := s.2.1) fun t ht' => hlow _ (by omega) (by omega) (by omega) (by omega) (by omega)]
      rfl
    have h0 := hlow 0 (by omega) (by omega) (by omega) (by omega) (by omega)
    have h1 := hlow 1 (by omega) (by omega) (by omega) (by omega) (by omega)
    have h5 := hlow 5 (by omega) (by omega) (by omega) (by omega) (by omega)
    have h7 := hlow 7 (by omega) (by omega) (by omega) (by omega) (by omega)
    have h8 := hlow 8 (by omega) (by omega) (by omega) (by omega) (by omega)
    have h9 := hlow 9 (by omega) (by omega) (by omega) (by omega) (by omega)
    have hcs : c = 0 ∨ c = 1 ∨ c = 2 ∨ c = 3 ∨ c = 4 ∨ c = 5 ∨ c = 6 ∨ c = 7 ∨ c = 8 ∨ c = 9 ∨ c = 10 ∨ c = 11 ∨ c = 12 ∨ c = 13 := by omega
    rcases hcs with q | q | q | q | q | q | q | q | q | q | q | q | q | q <;> subst q
    · exact h0
    · exact h1
    · rfl
    · exact h3
    · rfl
    · rfl
    · exact h4
    · exact h5
    · exact h6'
    · exact h7
    · exact h8
    · exact h9
    · exact h12
    · exact h13
  · rw [if_neg e]
    have hj : ∀ c, (bdB s k days).2.1 j c = s.2.1 j c := by
      intro c
      rw [hPd]
      unfold bdP
      rw [up2_k _ _ _ _ e, up2_k _ _ _ _ e, up2_k _ _ _ _ e, up2_k _ _ _ _ e, up2_k _ _ _ _ e, up2_k _ _ _ _ e, up2_k _ _ _ _ e, up2_k _ _ _ _ e]
    unfold bTP
    simp only [hj, bsP_congr (P := (bdB s k days).2.1) (P' := s.2.1) fun t _ => hj _]
theorem x_doNext {tp tk tl ts tq : Nat → Int32} {np nl : Int32} (hr : bRX tp tk tl ts np nl s) (hi : bMi s f b) (hf : 0 ≤ f ∧ f ≤ 900000) (hb : b + f ≤ 400000000) (hk : k < s.1) (ho : s.2.1 k 7 = 1) (hd : 0 ≤ days ∧ days ≤ 300) (h6 : 0 ≤ s.2.1 k 6 ∧ s.2.1 k 6 < s.2.1 k 5 ∧ s.2.1 k 5 ≤ 8) (hp : 1 ≤ s.2.1 k (10 + btn s k) ∧ s.2.1 k (10 + btn s k) ≤ 60) : bOk (fX0_doNextTask tp tk tl ts tq np nl (iv k) (iv days)) fun r => r.1 = iv (bdla s k days) ∧ bRX r.2.1 r.2.2.1 r.2.2.2.1 ts np r.2.2.2.2.2 (bdo s k days) := by
  have n6 := hr.n6
  have hk6 : k < 6 := by omega
  have ht : btn s k < 8 := by unfold btn; omega
  have e6 : s.2.1 k 6 = btn s k := by unfold btn; omega
  have hy : -60 ≤ bby s k days := by unfold bby; omega
  have hnp := hr.n
  subst hnp
  unfold fX0_doNextTask
  rw [hr.x.t.g hk6 8 (by omega), bw_b1_s, show bT (bTP s.2.1) s.2.2.1 s.2.2.2.1 k 8 = btn s k from e6, x_row, bw_b1_s]
  rw [show fX3_get 288 6 tk (iv ((8 * k + btn s k : Nat) : Int)) 0 = some (iv (s.2.1 k (10 + btn s k))) from hr.k.g hk6 ht 0 (by omega), bw_b1_s, bw_let_s, bw_let_s, iv_sub, iv_sub, iv_max0 (r32i (by omega) (by omega)), iv_max0 (r32i (by omega) (by omega))]
  generalize esp : max 0 (s.2.1 k (10 + btn s k) - days) = sp
  generalize edl : max 0 (days - s.2.1 k (10 + btn s k)) = dl
  have hsp : 0 ≤ sp ∧ sp ≤ 60 := by omega
  have hdl : 0 ≤ dl ∧ dl ≤ 300 := by omega
  have hiA : bMi (bsA s k days sp) (f + 60) b := hi.sA hk hsp
  obtain ⟨u1, u2, u3, u4, u5, u6, u7⟩ := bdA_uni hi.F0 hk (fun sp hs => (hi.sA hk hs).F0 k hk) hp hd.1 esp.symm edl.symm
  have hT := fun j c hc => bdB_T h6.1 h6.2.2 ht u7 j c hc
  refine bOk_b1 (hr.k.p hk6 ht 1 (by omega) days) fun tk1 hk1 => ?_
  refine bOk_b1 (hr.x.i hk6 8 (by omega) (by omega) (by omega) (by omega) 1) fun tp1 h1 => ?_
  refine bOk_b1 (h1.i hk6 13 (by omega) (by omega) (by omega) (by omega) days) fun tp2 h2 => ?_
  rw [iv_neg]
  refine bOk_b1 (x_useDays h2 hk6 (-sp)) fun tp3 h3 => ?_
  have hld : bLd 6 s.2.2.2.1 := fun e he => by have := hi.ld (by omega) e he; omega
  refine bOk_b3 (x_repay hk6 h3 hld (left := sp) (by omega)) fun tp4 tl4 nl4 h4 => ?_
  dsimp only at h4
  have h4' : bXL tp4 tl4 nl4 (up2 (up2 (up2 (bTP s.2.1) k 8 (bTP s.2.1 k 8 + 1)) k 13 (up2 (bTP s.2.1) k 8 (bTP s.2.1 k 8 + 1) k 13 + days)) k 3 (up2 (up2 (bTP s.2.1) k 8 (bTP s.2.1 k 8 + 1)) k 13 (up2 (bTP s.2.1) k 8 (bTP s.2.1 k 8 + 1) k 13 + days) k 3 + -sp)) (bsA s k days sp).2.2.1 (bsA s k days sp).2.2.2.1 := h4
  generalize hTA : up2 (up2 (up2 (bTP s.2.1) k 8 (bTP s.2.1 k 8 + 1)) k 13 (up2 (bTP s.2.1) k 8 (bTP s.2.1 k 8 + 1) k 13 + days)) k 3 (up2 (up2 (bTP s.2.1) k 8 (bTP s.2.1 k 8 + 1)) k 13 (up2 (bTP s.2.1) k 8 (bTP s.2.1 k 8 + 1) k 13 + days) k 3 + -sp) = TA at h4'
  have hFA := hiA.Fr (by omega) k hk
  rw [h4'.t.g hk6 2 (by omega), bw_b1_s, bw_let_s, show bT TA (bsA s k days sp).2.2.1 (bsA s k days sp).2.2.2.1 k 2 = (bsA s k days sp).2.2.1 k from rfl, iv_min (r32i (by omega) (by omega)) (r32i (by omega) (by omega))]
  generalize hsA : bsA s k days sp = sA at *
  have hkA : k < sA.1 := by rw [← hsA]; exact hk
  have hnA : sA.1 = s.1 := by rw [← hsA]; rfl
  have hSA : sA.2.2.2.2.1 = s.2.2.2.2.1 := by rw [← hsA]; rfl
  have hPA : ∀ j c, c < 18 → sA.2.1 j c = s.2.1 j c := fun j c hc => by rw [← hsA]; exact bd0_P _ _ hc
  obtain ⟨hi2, hc1, hc2⟩ := hiA.c2 hkA hdl.1
  obtain ⟨hi3, hc3, hc4, hc5⟩ := hiA.c3 (by omega) hkA hdl.1
  have hi1 := hiA.c1 hkA hdl.1
  have hv : 0 ≤ bowd sA k dl ∧ bowd sA k dl ≤ dl := by have := hFA.1; unfold bowd; omega
  rw [show min dl (sA.2.2.1 k) = bowd sA k dl from rfl]
  refine bOk_b1 (x_useDays h4' hk6 (bowd sA k dl)) fun tp5 h5 => ?_
  rw [iv_sub]
  have h5' : bXL tp5 tl4 nl4 (up2 TA k 3 (TA k 3 + bowd sA k dl)) (bch1 sA k dl).2.2.1 sA.2.2.2.1 := h5
  refine bOk_b4 (x_callBack (np := s.1) n6 hk6 h5' (by rw [← hnA]; exact hiA.ld (by omega)) (fun e he => (hiA.w.e he).2.2) (by rw [← hnA]; intro j hj; have := hi1.Fr (by omega) j hj; omega) (need := dl - bowd sA k dl) (by omega)) fun ca6 tp6 tl6 nl6 h6' => ?_
  obtain ⟨q6, h6'⟩ := h6'
  dsimp only at q6 h6'
  have q6' : ca6 = iv (bcad sA k dl) := q6
  subst q6'
  have h7 : bXL tp6 tl6 nl6 (up2 (up2 TA k 3 (TA k 3 + bowd sA k dl)) k 3 (up2 TA k 3 (TA k 3 + bowd sA k dl) k 3 + bcad sA k dl)) (bch2 sA k dl).2.2.1 (bch2 sA k dl).2.2.2.1 := h6'
  rw [iv_sub]
  have hTA6 : ∀ j c, c ≠ 3 → c ≠ 8 → c ≠ 13 → TA j c = bTP s.2.1 j c := by
    intro j c q1 q2 q3
    rw [← hTA, up2_c _ _ _ _ q1, up2_c _ _ _ _ q3, up2_c _ _ _ _ q2]
  have hxs : bXS tp6 ts (up2 (up2 TA k 3 (TA k 3 + bowd sA k dl)) k 3 (up2 TA k 3 (TA k 3 + bowd sA k dl) k 3 + bcad sA k dl)) (bch2 sA k dl) := by
    refine ⟨h7.t, fun i hi => ?_, fun j hj => ?_⟩
    · show ts i = iv (sA.2.2.2.2.1 i)
      rw [hSA]; exact hr.sS i hi
    · rw [up2_c _ _ _ _ (by omega), up2_c _ _ _ _ (by omega), up2_c _ _ _ _ (by omega), up2_c _ _ _ _ (by omega), up2_c _ _ _ _ (by omega), up2_c _ _ _ _ (by omega), hTA6 j 0 (by omega) (by omega) (by omega), hTA6 j 1 (by omega) (by omega) (by omega), hTA6 j 9 (by omega) (by omega) (by omega)]
      exact ⟨(hPA j 0 (by omega)).symm, (hPA j 1 (by omega)).symm, (hPA j 7 (by omega)).symm⟩
  have hob : (bch2 sA k dl).2.1 k 7 = 1 := (hPA k 7 (by omega)).trans ho
  have hbor := x_borrow (s := bch2 sA k dl) h7 hxs hi2 (by omega) (by omega) (by omega) (k := k) hkA hob (tq := tq) (need := dl - bowd sA k dl - bcad sA k dl) (by omega)
  rw [show (bch2 sA k dl).1 = s.1 from hnA] at hbor
  refine bOk_b5 hbor fun bo8 tp8 tl8 tq8 nl8 h8 => ?_
  obtain ⟨q8, h8⟩ := h8
  dsimp only at q8 h8
  have q8' : bo8 = iv (bbod sA k dl) := q8
  subst q8'
  rw [bw_let_s, iv_sub, show dl - bowd sA k dl - bcad sA k dl - bbod sA k dl = blad sA k dl by omega]
  have h9 : bXL tp8 tl8 nl8 (up2 (up2 (up2 TA k 3 (TA k 3 + bowd sA k dl)) k 3 (up2 TA k 3 (TA k 3 + bowd sA k dl) k 3 + bcad sA k dl)) k 3 (up2 (up2 TA k 3 (TA k 3 + bowd sA k dl)) k 3 (up2 TA k 3 (TA k 3 + bowd sA k dl) k 3 + bcad sA k dl) k 3 + bbod sA k dl)) (bch3 sA k dl).2.2.1 (bch3 sA k dl).2.2.2.1 := h8
  have hkA1 : bRK tk1 (bdA s k days).2.1 := by
    rw [u7]
    exact (hk1.o _ (by omega)).o _ (by omega)
  refine bOk_b1 (hkA1.p hk6 ht 2 (by omega) (bowd sA k dl)) fun tk2 hk2 => ?_
  refine bOk_b1 (hk2.p hk6 ht 3 (by omega) (bcad sA k dl)) fun tk3 hk3 => ?_
  refine bOk_b1 (hk3.p hk6 ht 4 (by omega) (bbod sA k dl)) fun tk4 hk4 => ?_
  refine bOk_b1 (hk4.p hk6 ht 5 (by omega) (blad sA k dl)) fun tk5 hk5 => ?_
  have hkB : bRK tk5 (bdB s k days).2.1 := by
    have := hk5.o (k := k) (c := 6) (s.2.1 k 6 + 1) (by omega)
    rw [← u3, ← u4, ← u5, ← u6] at this
    exact this
  refine bOk_b1 (h9.i hk6 6 (by omega) (by omega) (by omega) (by omega) (blad sA k dl)) fun tp10 h10 => ?_
  have hB : bXL tp10 tl8 nl8 (bTP (bdB s k days).2.1) (bdB s k days).2.2.1 (bdB s k days).2.2.2.1 := by
    have e1 : (bdB s k days).2.2.1 = (bch3 sA k dl).2.2.1 := u1
    have e2 : (bdB s k days).2.2.2.1 = (bch3 sA k dl).2.2.2.1 := u2
    rw [e1, e2]
    refine h10.cg (fun j c hj hc hc2 => ?_) fun j hj => rfl
    rw [hT j c hc]
    by_cases e : j = k
    · subst e
      rw [if_pos rfl]
      have t8 : bTP s.2.1 j 8 = s.2.1 j 6 := rfl
      have t13 : bTP s.2.1 j 13 = bsP s.2.1 j 18 (s.2.1 j 6).toNat := rfl
      have t3 : bTP s.2.1 j 3 = s.2.1 j 3 := rfl
      have t6 : bTP s.2.1 j 6 = s.2.1 j 4 := rfl
      by_cases q8 : c = 8
      · subst q8
        rw [if_pos rfl, ← hTA]
        simp [up2, t8]
      · rw [if_neg q8]
        by_cases q13 : c = 13
        · subst q13
          rw [if_pos rfl, ← hTA]
          simp [up2, t13]
        · rw [if_neg q13]
          by_cases q3 : c = 3
          · subst q3
            rw [if_pos rfl, ← hTA]
            simp [up2, t3]
            omega
          · rw [if_neg q3]
            by_cases q6 : c = 6
            · subst q6
              rw [if_pos rfl, ← hTA]
              simp [up2, t6]
            · rw [if_neg q6, up2_c _ _ _ _ q6, up2_c _ _ _ _ q3, up2_c _ _ _ _ q3, up2_c _ _ _ _ q3, hTA6 _ _ q3 q8 q13]
    · rw [if_neg e, up2_k _ _ _ _ e, up2_k _ _ _ _ e, up2_k _ _ _ _ e, up2_k _ _ _ _ e, ← hTA, up2_k _ _ _ _ e, up2_k _ _ _ _ e, up2_k _ _ _ _ e]
  have hB0 : bRX tp10 tk5 tl8 ts (iv s.1) nl8 (bdB s k days) := by
    refine ⟨?_, ?_, hB, hkB, fun i hi => ?_⟩
    · show (bdA s k days).1 ≤ 6; rw [bdA_np]; exact n6
    · show iv s.1 = iv (bdA s k days).1; rw [bdA_np]
    · show ts i = iv ((bdA s k days).2.2.2.2.1 i); rw [bdA_S]; exact hr.sS i hi
  have b9 : bT (bTP (bdB s k days).2.1) (bdB s k days).2.2.1 (bdB s k days).2.2.2.1 k 9 = 1 := by
    show bTP (bdB s k days).2.1 k 9 = 1
    rw [hT k 9 (by omega), if_pos rfl]
    exact ho
  have b8 : bT (bTP (bdB s k days).2.1) (bdB s k days).2.2.1 (bdB s k days).2.2.2.1 k 8 = s.2.1 k 6 + 1 := by
    show bTP (bdB s k days).2.1 k 8 = _
    rw [hT k 8 (by omega), if_pos rfl]
    rfl
  have b7 : bT (bTP (bdB s k days).2.1) (bdB s k days).2.2.1 (bdB s k days).2.2.2.1 k 7 = s.2.1 k 5 := by
    show bTP (bdB s k days).2.1 k 7 = _
    rw [hT k 7 (by omega), if_pos rfl]
    rfl
  rw [x_hasNext hB.t hk6 b9 (.inr rfl) b7 b8 (r32i (by omega) (by omega)) (r32i (by omega) (by omega)), bw_b1_s, ite_10]
  have hiB := hi.dB (by omega) hk hy
  have hFB := hiB.Fr (by omega) k (by show k < (bdA s k days).1; rw [bdA_np]; exact hk)
  have hs2 := hi.s2
  unfold bdo
  by_cases c : s.2.1 k 6 + 1 < s.2.1 k 5
  · rw [if_pos ⟨rfl, c⟩, if_pos c, hB.t.g hk6 2 (by omega), bw_b1_s, show fX3_get 3 3 ts 0 2 = some (iv (s.2.2.2.2.1 2)) from ts_g hr.sS 2 (by omega), bw_b1_s, show bT (bTP (bdB s k days).2.1) (bdB s k days).2.2.1 (bdB s k days).2.2.2.1 k 2 = (bdB s k days).2.2.1 k from rfl, bdA_S]
    have hm1 : 0 ≤ (bdB s k days).2.2.1 k * s.2.2.2.2.1 2 := Int.mul_nonneg hFB.1 hs2.1
    have hm2 : (bdB s k days).2.2.1 k * s.2.2.2.2.1 2 ≤ 1000000 * 100 := by
      calc (bdB s k days).2.2.1 k * s.2.2.2.2.1 2 ≤ 1000000 * s.2.2.2.2.1 2 := Int.mul_le_mul_of_nonneg_right hFB.2 hs2.1
        _ ≤ 1000000 * 100 := Int.mul_le_mul_of_nonneg_left hs2.2 (by omega)
    have hm3 : (bdB s k days).2.2.1 k * s.2.2.2.2.1 2 / 100 ≤ (bdB s k days).2.2.1 k := by
      have : (bdB s k days).2.2.1 k * s.2.2.2.2.1 2 ≤ (bdB s k days).2.2.1 k * 100 := Int.mul_le_mul_of_nonneg_left hs2.2 hFB.1
      omega
    rw [iv_mul, show (100 : Int32) = iv 100 from rfl, iv_div hm1 (by omega) (by omega) (by omega)]
    have hld2 : bLd 6 (bdB s k days).2.2.2.1 := fun e he => by
      have := hiB.ld (by omega) e he
      have h3 := hiB.n6
      omega
    refine bOk_b3 (x_repay hk6 hB hld2 (left := (bdB s k days).2.2.1 k * s.2.2.2.2.1 2 / 100) (by omega)) fun tp11 tl11 nl11 h11 => ?_
    dsimp only at h11
    refine bOk_s ⟨by rw [u6], hB0.n6, hB0.n, ?_, hkB, hB0.sS⟩
    unfold bpayA
    rw [Int.min_eq_left hm3]
    exact h11
  · rw [if_neg (fun q => c q.2), if_neg c]
    exact bOk_s ⟨by rw [u6], hB0⟩
end
