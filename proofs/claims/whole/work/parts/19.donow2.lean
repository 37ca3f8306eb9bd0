/- needs: 10_base 11_kit 12_refw 13_refs 14_refl 15_pay 16_order 17_charge 18_donow -/
/-! ===== a task is done: the whole step ===== -/
def btn (s : bSt) (k : Nat) : Nat := (s.2.1 k 6).toNat
def bby (s : bSt) (k : Nat) (days : Int) : Int := days - s.2.1 k (10 + btn s k)
def bd0 (s : bSt) (k : Nat) (days : Int) : bSt := (s.1, up2 s.2.1 k (18 + btn s k) days, s.2.2.1, s.2.2.2.1, s.2.2.2.2.1, s.2.2.2.2.2)
/-- early: the days spared are paid back -/
def bdE (s : bSt) (k : Nat) (v : Int) : bSt := bpayA (s.1, up2 s.2.1 k 3 (s.2.1 k 3 + v), up1 s.2.2.1 k (s.2.2.1 k - v), s.2.2.2.1, s.2.2.2.2.1, s.2.2.2.2.2) k (-v)
def bdA (s : bSt) (k : Nat) (days : Int) : bSt := if bby s k days ≤ 0 then bdE (bd0 s k days) k (bby s k days) else bchS (bd0 s k days) k (bby s k days)
def bdow (s : bSt) (k : Nat) (days : Int) : Int := if bby s k days ≤ 0 then 0 else bowd (bd0 s k days) k (bby s k days)
def bdca (s : bSt) (k : Nat) (days : Int) : Int := if bby s k days ≤ 0 then 0 else bcad (bd0 s k days) k (bby s k days)
def bdbo (s : bSt) (k : Nat) (days : Int) : Int := if bby s k days ≤ 0 then 0 else bbod (bd0 s k days) k (bby s k days)
def bdla (s : bSt) (k : Nat) (days : Int) : Int := if bby s k days ≤ 0 then 0 else blad (bd0 s k days) k (bby s k days)
def bdP (P : Nat → Nat → Int) (k t : Nat) (ow ca bo la d : Int) : Nat → Nat → Int := up2 (up2 (up2 (up2 (up2 P k (26 + 4 * t) ow) k (26 + 4 * t + 1) ca) k (26 + 4 * t + 2) bo) k (26 + 4 * t + 3) la) k 6 d
def bdB (s : bSt) (k : Nat) (days : Int) : bSt := ((bdA s k days).1, bdP (bdA s k days).2.1 k (btn s k) (bdow s k days) (bdca s k days) (bdbo s k days) (bdla s k days) (s.2.1 k 6 + 1), (bdA s k days).2.2.1, (bdA s k days).2.2.2.1, (bdA s k days).2.2.2.2.1, (bdA s k days).2.2.2.2.2)
def bdo (s : bSt) (k : Nat) (days : Int) : bSt := if s.2.1 k 6 + 1 < s.2.1 k 5 then bpayA (bdB s k days) k ((bdB s k days).2.2.1 k * (bdA s k days).2.2.2.2.1 2 / 100) else bdB s k days
theorem bdP_c (P : Nat → Nat → Int) (k t : Nat) (ow ca bo la d : Int) (j c : Nat) (h6 : c ≠ 6) (h : c < 26) : bdP P k t ow ca bo la d j c = P j c := by
  unfold bdP
  rw [up2_c _ _ _ _ h6, up2_c _ _ _ _ (by omega), up2_c _ _ _ _ (by omega), up2_c _ _ _ _ (by omega), up2_c _ _ _ _ (by omega)]
theorem bchS_P {s : bSt} {k : Nat} {d : Int} (j c : Nat) (h3 : c ≠ 3) (h4 : c ≠ 4) : (bchS s k d).2.1 j c = s.2.1 j c := by
  unfold bchS
  dsimp only
  rw [up2_c _ _ _ _ h4, up2_c _ _ _ _ h3]
theorem bdE_P {s : bSt} {k : Nat} {d : Int} (j c : Nat) (h3 : c ≠ 3) : (bdE s k d).2.1 j c = s.2.1 j c := up2_c _ _ _ _ h3
theorem bd0_P {s : bSt} {k : Nat} {d : Int} (j c : Nat) (h : c < 18) : (bd0 s k d).2.1 j c = s.2.1 j c := up2_c _ _ _ _ (by omega)
theorem bdA_P {s : bSt} {k : Nat} {d : Int} (j c : Nat) (h3 : c ≠ 3) (h4 : c ≠ 4) (h : c < 18) : (bdA s k d).2.1 j c = s.2.1 j c := by
  unfold bdA
  split
  · rw [bdE_P _ _ h3, bd0_P _ _ h]
  · rw [bchS_P _ _ h3 h4, bd0_P _ _ h]
section
variable {s : bSt} {f b : Int}
theorem bMi.bc (h : bMi s f b) {f' b' : Int} (hf : f ≤ f') (hb : b ≤ b') : bMi s f' b' := ⟨h.n6, h.w, h.pos, h.op, h.rk, h.bf, h.F0, by have := h.FS; omega, by have := h.LS; omega, h.s0, h.s1, h.s2⟩
theorem bMi.dE (h : bMi s f b) {k : Nat} (hk : k < s.1) {v : Int} (hv : v ≤ 0 ∧ -60 ≤ v) : bMi (bdE s k v) (f + 60) b := by
  have h1 : bMi (s.1, up2 s.2.1 k 3 (s.2.1 k 3 + v), up1 s.2.2.1 k (s.2.2.1 k - v), s.2.2.2.1, s.2.2.2.2.1, s.2.2.2.2.2) (f + 60) b := by
    refine bMi.col (s := (s.1, s.2.1, up1 s.2.2.1 k (s.2.2.1 k - v), s.2.2.2.1, s.2.2.2.2.1, s.2.2.2.2.2)) ?_ _ (by omega) (by omega) (by omega)
    refine h.fl h.w h.pos (fun j hj => ?_) ?_ h.LS
    · have := h.F0 j hj
      by_cases c : j = k
      · subst c; rw [up1_self]; omega
      · rw [up1_ne _ _ c]; exact this
    · rw [bsF_up, if_pos hk]
      have := h.FS
      omega
  exact h1.pay hk _
theorem bMi.d0 (h : bMi s f b) {k : Nat} {days : Int} : bMi (bd0 s k days) f b := h.col _ (by omega) (by omega) (by omega)
theorem bMi.dA (h : bMi s f b) (hf : f ≤ 900000) {k : Nat} (hk : k < s.1) {days : Int} (hy : -60 ≤ bby s k days) : bMi (bdA s k days) (f + 60) (b + f) := by
  have h0 := (bsF_nn h.F0).1
  have hFS := h.FS
  unfold bdA
  split
  · exact (h.d0.dE hk (by omega)).bc (by omega) (by omega)
  · exact (h.d0.chS (by omega) hk (by omega)).bc (by omega) (by omega)
theorem bMi.dP (h : bMi s f b) {k t : Nat} {ow ca bo la d : Int} : bMi (s.1, bdP s.2.1 k t ow ca bo la d, s.2.2.1, s.2.2.2.1, s.2.2.2.2.1, s.2.2.2.2.2) f b :=
  ((((h.col (k := k) (c := 26 + 4 * t) ow (by omega) (by omega) (by omega)).col (k := k) (c := 26 + 4 * t + 1) ca (by omega) (by omega) (by omega)).col (k := k) (c := 26 + 4 * t + 2) bo (by omega) (by omega) (by omega)).col (k := k) (c := 26 + 4 * t + 3) la (by omega) (by omega) (by omega)).col (k := k) (c := 6) d (by omega) (by omega) (by omega)
theorem bMi.dB (h : bMi s f b) (hf : f ≤ 900000) {k : Nat} (hk : k < s.1) {days : Int} (hy : -60 ≤ bby s k days) : bMi (bdB s k days) (f + 60) (b + f) := (h.dA hf hk hy).dP
theorem bdA_np {k : Nat} {days : Int} : (bdA s k days).1 = s.1 := by unfold bdA; split <;> rfl
theorem bdA_S {k : Nat} {days : Int} : (bdA s k days).2.2.2.2.1 = s.2.2.2.2.1 := by unfold bdA; split <;> rfl
theorem bMi.do (h : bMi s f b) (hf : f ≤ 900000) {k : Nat} (hk : k < s.1) {days : Int} (hy : -60 ≤ bby s k days) : bMi (bdo s k days) (f + 60) (b + f) := by
  have h1 := h.dB hf hk hy
  unfold bdo
  split
  · exact h1.pay (by show k < (bdA s k days).1; rw [bdA_np]; exact hk) _
  · exact h1
theorem l_doNow {z : Nat → Int32} {sA : bSt} (h : bRZ z sA) (hi : bMi sA f b) (hf : f ≤ 1000000) (hb : b ≤ 1000000000) {k t : Nat} (hk : k < sA.1) (ht : t < 8) {od : bw_A1} {om : Int32} {ow ca bo la : Int} (h6 : sA.2.1 k 6 = t) (h5 : t < sA.2.1 k 5 ∧ sA.2.1 k 5 ≤ 8) : bOk (jX6_doNow_114 z od om (iv ow) (iv ca) (iv bo) (iv la) (iv k) (6 + 58 * iv k) (iv t)) fun r => bRZ r.1 (if sA.2.1 k 6 + 1 < sA.2.1 k 5 then bpayA (sA.1, bdP sA.2.1 k t ow ca bo la (sA.2.1 k 6 + 1), sA.2.2.1, sA.2.2.2.1, sA.2.2.2.2.1, sA.2.2.2.2.2) k (sA.2.2.1 k * sA.2.2.2.2.1 2 / 100) else (sA.1, bdP sA.2.1 k t ow ca bo la (sA.2.1 k 6 + 1), sA.2.2.1, sA.2.2.2.1, sA.2.2.2.2.1, sA.2.2.2.2.2)) ∧ r.2.2.2.1 = iv ow ∧ r.2.2.2.2.1 = iv ca ∧ r.2.2.2.2.2.1 = iv bo ∧ r.2.2.2.2.2.2 = iv la := by
  unfold jX6_doNow_114
  refine bOk_b1 (h.wC0 hk ht ow) fun z1 h1 => ?_
  refine bOk_b1 (h1.wC hk ht 1 (by omega) ca) fun z2 h2 => ?_
  refine bOk_b1 (h2.wC hk ht 2 (by omega) bo) fun z3 h3 => ?_
  refine bOk_b1 (h3.wC hk ht 3 (by omega) la) fun z4 h4 => ?_
  dsimp only at h4
  have e6 : up2 (up2 (up2 (up2 sA.2.1 k (26 + 4 * t) ow) k (26 + 4 * t + 1) ca) k (26 + 4 * t + 2) bo) k (26 + 4 * t + 3) la k 6 = sA.2.1 k 6 := by
    rw [up2_c _ _ _ _ (by omega), up2_c _ _ _ _ (by omega), up2_c _ _ _ _ (by omega), up2_c _ _ _ _ (by omega)]
  rw [h4.rP hk 6 (by omega) (by omega), bw_b1_s]
  dsimp only
  rw [e6, show (1 : Int32) = iv 1 from rfl, iv_add]
  refine bOk_b1 (h4.wP hk 6 (by omega) (by omega) _) fun z5 h5' => ?_
  have h5'' : bRZ z5 (sA.1, bdP sA.2.1 k t ow ca bo la (sA.2.1 k 6 + 1), sA.2.2.1, sA.2.2.2.1, sA.2.2.2.2.1, sA.2.2.2.2.2) := h5'
  have e5 : bdP sA.2.1 k t ow ca bo la (sA.2.1 k 6 + 1) k 5 = sA.2.1 k 5 := bdP_c _ _ _ _ _ _ _ _ _ _ (by omega) (by omega)
  have e7 : bdP sA.2.1 k t ow ca bo la (sA.2.1 k 6 + 1) k 6 = sA.2.1 k 6 + 1 := up2_self _ _ _ _
  rw [f_hasNext' h5'' hk e5 e7 (r32i (by omega) (by omega)) (r32i (by omega) (by omega)), bw_b1_s, ite_10]
  have hF := hi.Fr hf k hk
  have hs2 := hi.s2
  by_cases c : sA.2.1 k 6 + 1 < sA.2.1 k 5
  · rw [if_pos c, if_pos c, h5''.rF hk, bw_b1_s, h5''.rS2, bw_b1_s]
    dsimp only
    have hm1 : 0 ≤ sA.2.2.1 k * sA.2.2.2.2.1 2 := Int.mul_nonneg hF.1 hs2.1
    have hm2 : sA.2.2.1 k * sA.2.2.2.2.1 2 ≤ 1000000 * 100 := by
      calc sA.2.2.1 k * sA.2.2.2.2.1 2 ≤ 1000000 * sA.2.2.2.2.1 2 := Int.mul_le_mul_of_nonneg_right hF.2 hs2.1
        _ ≤ 1000000 * 100 := Int.mul_le_mul_of_nonneg_left hs2.2 (by omega)
    rw [iv_mul, show (100 : Int32) = iv 100 from rfl, iv_div hm1 (by omega) (by omega) (by omega)]
    refine bOk_b1 (f_payAll h5'' (hi.ld hb) hk (show 0 ≤ sA.2.2.1 k ∧ sA.2.2.1 k ≤ 1000000000 by omega) (most := sA.2.2.1 k * sA.2.2.2.2.1 2 / 100) (by omega)) fun z6 h7 => bOk_s ⟨h7, rfl, rfl, rfl, rfl⟩
  · rw [if_neg c, if_neg c]
    exact bOk_s ⟨h5'', rfl, rfl, rfl, rfl⟩
theorem f_doNow {z : Nat → Int32} (h : bRZ z s) (hi : bMi s f b) (hf : f ≤ 900000) (hb : b + f ≤ 1000000000) {k : Nat} (hk : k < s.1) {od : bw_A1} {om ow ca bo la : Int32} {days : Int} (hd : 0 ≤ days ∧ days ≤ 300) (h6 : 0 ≤ s.2.1 k 6 ∧ s.2.1 k 6 < s.2.1 k 5 ∧ s.2.1 k 5 ≤ 8) (hp : 1 ≤ s.2.1 k (10 + btn s k) ∧ s.2.1 k (10 + btn s k) ≤ 60) : bOk (fX6_doNow z od om ow ca bo la (iv k) (iv days)) fun r => bRZ r.1 (bdo s k days) ∧ r.2.2.2.1 = iv (bdow s k days) ∧ r.2.2.2.2.1 = iv (bdca s k days) ∧ r.2.2.2.2.2.1 = iv (bdbo s k days) ∧ r.2.2.2.2.2.2 = iv (bdla s k days) := by
  have ht : btn s k < 8 := by unfold btn; omega
  have e6 : s.2.1 k 6 = btn s k := by unfold btn; omega
  have hy : -60 ≤ bby s k days := by unfold bby; omega
  have hA := hi.dA hf hk hy
  have hnp : (bdA s k days).1 = s.1 := bdA_np
  have eA6 : (bdA s k days).2.1 k 6 = s.2.1 k 6 := bdA_P _ _ (by omega) (by omega) (by omega)
  have eA5 : (bdA s k days).2.1 k 5 = s.2.1 k 5 := bdA_P _ _ (by omega) (by omega) (by omega)
  have eS : (bdA s k days).2.2.2.2.1 = s.2.2.2.2.1 := bdA_S
  have key : ∀ (zA : Nat → Int32) (odA : bw_A1) (omA : Int32), bRZ zA (bdA s k days) → bOk (jX6_doNow_114 zA odA omA (iv (bdow s k days)) (iv (bdca s k days)) (iv (bdbo s k days)) (iv (bdla s k days)) (iv k) (6 + 58 * iv k) (iv (btn s k))) fun r => bRZ r.1 (bdo s k days) ∧ r.2.2.2.1 = iv (bdow s k days) ∧ r.2.2.2.2.1 = iv (bdca s k days) ∧ r.2.2.2.2.2.1 = iv (bdbo s k days) ∧ r.2.2.2.2.2.2 = iv (bdla s k days) := by
    intro zA odA omA hzA
    have := l_doNow hzA hA (by omega) (by omega) (k := k) (t := btn s k) (by rw [hnp]; exact hk) ht (od := odA) (om := omA) (ow := bdow s k days) (ca := bdca s k days) (bo := bdbo s k days) (la := bdla s k days) (by rw [eA6]; exact e6) (by rw [eA5]; omega)
    rw [eA6, eA5] at this
    exact this
  unfold fX6_doNow
  rw [f_at, bw_b1_s, h.rP hk 6 (by omega) (by omega), bw_b1_s, e6, h.rT hk 10 (by omega) (by omega), bw_b1_s, bw_let_s, iv_sub]
  refine bOk_b1 (h.wT hk 18 (by omega) (by omega) days) fun z1 h1 => ?_
  have h1' : bRZ z1 (bd0 s k days) := h1
  rw [show (0 : Int32) = iv 0 from rfl, ite_le (r32i (by omega) (by omega)) (r32i (by omega) (by omega))]
  have eby : days - s.2.1 k (10 + btn s k) = bby s k days := rfl
  rw [eby]
  by_cases c : bby s k days ≤ 0
  · rw [if_pos c]
    have e1 : bdow s k days = 0 := if_pos c
    have e2 : bdca s k days = 0 := if_pos c
    have e3 : bdbo s k days = 0 := if_pos c
    have e4 : bdla s k days = 0 := if_pos c
    have eA : bdA s k days = bdE (bd0 s k days) k (bby s k days) := if_pos c
    rw [e1, e2, e3, e4, eA] at key
    rw [h1'.rF hk, bw_b1_s, iv_sub]
    refine bOk_b1 (h1'.wF hk _) fun z2 h2 => ?_
    rw [h2.rP hk 3 (by omega) (by omega), bw_b1_s, iv_add]
    refine bOk_b1 (h2.wP hk 3 (by omega) (by omega) _) fun z3 h3 => ?_
    rw [iv_neg]
    have hiE : bMi ((bd0 s k days).1, up2 (bd0 s k days).2.1 k 3 ((bd0 s k days).2.1 k 3 + bby s k days), up1 (bd0 s k days).2.2.1 k ((bd0 s k days).2.2.1 k - bby s k days), (bd0 s k days).2.2.2.1, (bd0 s k days).2.2.2.2.1, (bd0 s k days).2.2.2.2.2) (f + 60) b := by
      refine bMi.col (s := ((bd0 s k days).1, (bd0 s k days).2.1, up1 s.2.2.1 k (s.2.2.1 k - bby s k days), (bd0 s k days).2.2.2.1, (bd0 s k days).2.2.2.2.1, (bd0 s k days).2.2.2.2.2)) ?_ _ (by omega) (by omega) (by omega)
      refine (hi.d0 (k := k) (days := days)).fl hi.w hi.pos (fun j hj => ?_) ?_ hi.LS
      · have := hi.F0 j hj
        by_cases c : j = k
        · subst c; rw [up1_self]; omega
        · rw [up1_ne _ _ c]; exact this
      · show bsF (up1 s.2.2.1 k (s.2.2.1 k - bby s k days)) s.1 ≤ f + 60
        rw [bsF_up, if_pos hk]
        have := hi.FS
        omega
    have hFk := hiE.Fr (by omega) k hk
    have hn0 := (bsF_nn hi.F0).1
    have hFS := hi.FS
    refine bOk_b1 (f_payAll h3 (hiE.ld (by omega)) hk (by dsimp only at hFk ⊢; omega) (most := -bby s k days) (by omega)) fun z4 h4 => ?_
    rw [e1, e2, e3, e4]
    exact key z4 od om h4
  · rw [if_neg c]
    have e1 : bdow s k days = bowd (bd0 s k days) k (bby s k days) := if_neg c
    have e2 : bdca s k days = bcad (bd0 s k days) k (bby s k days) := if_neg c
    have e3 : bdbo s k days = bbod (bd0 s k days) k (bby s k days) := if_neg c
    have e4 : bdla s k days = blad (bd0 s k days) k (bby s k days) := if_neg c
    have eA : bdA s k days = bchS (bd0 s k days) k (bby s k days) := if_neg c
    rw [e1, e2, e3, e4, eA] at key
    have hn0 := (bsF_nn hi.F0).1
    have hFS := hi.FS
    refine bOk_b7 (f_charge h1' hi.d0 (by omega) (by omega) hk (delay := bby s k days) (by unfold bby; omega)) fun z2 od2 om2 ow2 ca2 bo2 la2 h2 => ?_
    obtain ⟨h2, q1, q2, q3, q4⟩ := h2
    dsimp only at h2 q1 q2 q3 q4
    subst q1 q2 q3 q4
    rw [e1, e2, e3, e4]
    exact key z2 od2 om2 h2
end
