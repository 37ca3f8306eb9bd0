/- needs: 10_base 11_kit 12_refw 13_refs 14_refl 15_pay 16_order 17_charge 18_donow 19_donow2 20_tab 21_xpay 22_xqueue 23_xborrow 24_xdo 25_xdo2 30_refops 31_xops 32_saved 33_inv 34_inv2 -/
/-! ===== the calls that change the state ===== -/
theorem f_out {v l m : Int} (hv : r32 v) (hl : r32 l) (hm : r32 m) : fX5_isOutside (iv v) (iv l) (iv m) = some (if l ≤ v ∧ v ≤ m then 0 else 1) := by
  unfold fX5_isOutside jX5_isOutside_10
  rw [ite_lt hv hl, ite_le hv hm]
  by_cases h1 : v < l
  · rw [if_pos h1, if_neg (by omega)]
  · rw [if_neg h1]
    by_cases h2 : v ≤ m
    · rw [if_pos h2, if_pos (by omega)]
    · rw [if_neg h2, if_neg (by omega)]
theorem ite_01 {α : Type} {c : Prop} [Decidable c] {X Y : α} : (if (if c then (0 : Int32) else 1) = 0 then X else Y) = if c then X else Y := by
  by_cases h : c <;> simp [h]
theorem r32_of (x : Int32) : r32 x.toInt := ⟨Int32.le_toInt x, Int32.toInt_lt x⟩
/-- both answer, or both throw, and alike -/
def bAg (km : Nat → Int32) (ec : Nat) (r b th : Int32) : Prop := (ec = 0 ∧ th = 0 ∧ r = b) ∨ (ec ≠ 0 ∧ ec ≤ 3 ∧ th = km ec ∧ km ec ≠ 0)
abbrev bDK (s : bSt) (H : List bSt) (f b : Int) (d : Nat → Nat → Int32) (sl : Nat → Nat → Nat → Int32) (hn hs : Int32) (z rows : Nat → Int32) (sm : Int32) : Prop := (bRD d s) ∧ (bRH sl hn hs H) ∧ (bRZ z s) ∧ (bRR rows sm H) ∧ (bIn s f b) ∧ (∀ t ∈ H, bIn t f b)
theorem bDK.x {s : bSt} {H : List bSt} {f b : Int} {d : Nat → Nat → Int32} {sl : Nat → Nat → Nat → Int32} {hn hs : Int32} {z rows : Nat → Int32} {sm : Int32} (h__ : bDK s H f b d sl hn hs z rows sm) : bRD d s := h__.1
theorem bDK.h {s : bSt} {H : List bSt} {f b : Int} {d : Nat → Nat → Int32} {sl : Nat → Nat → Nat → Int32} {hn hs : Int32} {z rows : Nat → Int32} {sm : Int32} (h__ : bDK s H f b d sl hn hs z rows sm) : bRH sl hn hs H := h__.2.1
theorem bDK.z {s : bSt} {H : List bSt} {f b : Int} {d : Nat → Nat → Int32} {sl : Nat → Nat → Nat → Int32} {hn hs : Int32} {z rows : Nat → Int32} {sm : Int32} (h__ : bDK s H f b d sl hn hs z rows sm) : bRZ z s := h__.2.2.1
theorem bDK.r {s : bSt} {H : List bSt} {f b : Int} {d : Nat → Nat → Int32} {sl : Nat → Nat → Nat → Int32} {hn hs : Int32} {z rows : Nat → Int32} {sm : Int32} (h__ : bDK s H f b d sl hn hs z rows sm) : bRR rows sm H := h__.2.2.2.1
theorem bDK.i {s : bSt} {H : List bSt} {f b : Int} {d : Nat → Nat → Int32} {sl : Nat → Nat → Nat → Int32} {hn hs : Int32} {z rows : Nat → Int32} {sm : Int32} (h__ : bDK s H f b d sl hn hs z rows sm) : bIn s f b := h__.2.2.2.2.1
theorem bDK.hi {s : bSt} {H : List bSt} {f b : Int} {d : Nat → Nat → Int32} {sl : Nat → Nat → Nat → Int32} {hn hs : Int32} {z rows : Nat → Int32} {sm : Int32} (h__ : bDK s H f b d sl hn hs z rows sm) : ∀ t ∈ H, bIn t f b := h__.2.2.2.2.2
theorem bpush_in {s : bSt} {H : List bSt} {t : bSt} (h : t ∈ bpush s H) : t = s ∨ t ∈ H := List.mem_cons.mp (List.mem_of_mem_take h)
section
variable {s : bSt} {H : List bSt} {f b : Int} {d : Nat → Nat → Int32} {sl : Nat → Nat → Nat → Int32} {hn hs : Int32} {z rows : Nat → Int32} {sm : Int32}
theorem bDK.same (h : bDK s H f b d sl hn hs z rows sm) : ∃ s' H', bDK s' H' (f + 600) (b + 310000) d sl hn hs z rows sm := ⟨s, H, h.x, h.h, h.z, h.r, h.i.bc (by omega) (by omega), fun t ht => (h.hi t ht).bc (by omega) (by omega)⟩
theorem bDK.np6 (h : bDK s H f b d sl hn hs z rows sm) : s.1 ≤ 6 := h.z.n6
theorem f_needProject (h : bRD d s) {p : Int} (hp : r32 p) : fX5_needProject d (iv p) = some (if 0 ≤ p ∧ p ≤ (s.1 : Int) - 1 then 0 else 1) := by
  have h6 := bRX.n6 h
  unfold fX5_needProject fX0_projects
  rw [bw_b1_s, bRX.n h, show (1 : Int32) = iv 1 from rfl, iv_sub, show (0 : Int32) = iv 0 from rfl, f_out hp (r32i (by omega) (by omega)) (r32i (by omega) (by omega)), bw_b1_s]
  by_cases c : 0 ≤ p ∧ p ≤ (s.1 : Int) - 1
  · rw [if_pos c, if_pos c]; rfl
  · rw [if_neg c, if_neg c]; rfl
theorem isP {p : Int} {n : Nat} (h : 0 ≤ p ∧ p ≤ (n : Int) - 1) : ∃ k : Nat, p = k ∧ k < n := ⟨p.toNat, by omega, by omega⟩
theorem x_part (h : bRD d s) {k : Nat} (hk : k < s.1) (c : Nat) (hc : c < 14) (hm : 14 ≠ c) : fX0_projectPart (d 0) (d 3) (iv k) (OfNat.ofNat c) = some (iv (bT (bTP s.2.1) s.2.2.1 s.2.2.2.1 k c)) := by
  have h6 := bRX.n6 h
  unfold fX0_projectPart
  rw [if_neg (by rw [iv_castv c, show (14 : Int32) = iv 14 from rfl, iv_eq (by omega) (by omega) (by omega) (by omega)]; omega), (bRX.x h).t.g (by omega) c hc, bw_b1_s]
theorem op_open (h : bDK s H f b d sl hn hs z rows sm) (th p1 p2 : Int32) : bOk (fX5_open d sl hn hs p1 p2) fun c => bOk (fX6_open z rows sm th p1 p2) fun m => bAg (fun e => if e = 2 then 1 else if e = 3 then 2 else 0) c.1 c.2.1 m.1 m.2.2.2.2 ∧ ∃ s' H', bDK s' H' (f + 600) (b + 310000) c.2.2.1 c.2.2.2.1 c.2.2.2.2.1 c.2.2.2.2.2 m.2.1 m.2.2.1 m.2.2.2.1 := by
  have h6 := h.np6
  have hp1 := r32_of p1
  have hp2 := r32_of p2
  rw [← iv_of p1, ← iv_of p2]
  generalize p1.toInt = r at hp1 ⊢
  generalize p2.toInt = bf at hp2 ⊢
  unfold fX5_open fX6_open fX6_isRank jX6_open_22 fX6_fails fX0_projects
  have a1 : fX5_isOutside (iv r) 1 9 = some (if 1 ≤ r ∧ r ≤ 9 then 0 else 1) := f_out (l := 1) (m := 9) hp1 (r32i (by omega) (by omega)) (r32i (by omega) (by omega))
  have a2 : fX6_in (iv r) 1 9 = some (if 1 ≤ r ∧ r ≤ 9 then 1 else 0) := f_in (l := 1) (m := 9) hp1 (r32i (by omega) (by omega)) (r32i (by omega) (by omega))
  have a3 : fX5_isOutside (iv bf) 0 99 = some (if 0 ≤ bf ∧ bf ≤ 99 then 0 else 1) := f_out (l := 0) (m := 99) hp2 (r32i (by omega) (by omega)) (r32i (by omega) (by omega))
  have a4 : fX6_in (iv bf) 0 99 = some (if 0 ≤ bf ∧ bf ≤ 99 then 1 else 0) := f_in (l := 0) (m := 99) hp2 (r32i (by omega) (by omega)) (r32i (by omega) (by omega))
  simp only [a1, a2, a3, a4, h.z.r0, bw_b1_s, bw_b2_s, bw_bool_if, ite_10, ite_01]
  by_cases c1 : 1 ≤ r ∧ r ≤ 9
  · rw [if_pos c1, if_pos c1]
    by_cases c2 : 0 ≤ bf ∧ bf ≤ 99
    · rw [if_pos c2, if_pos c2, bRX.n h.x, show (6 : Int32) = iv 6 from rfl, ite_lt (r32n (by omega)) (r32i (by omega) (by omega)), ite_iv (r32n (by omega)) (r32i (by omega) (by omega))]
      by_cases c3 : (s.1 : Int) < 6
      · rw [if_pos c3, if_neg (by omega)]
        have hz := h.i.z0 s.1 (Nat.le_refl _)
        refine bOk_b3 (x_keep h.x h.h) fun sl1 hn1 hs1 hk => ?_
        rw [← bRX.n h.x]
        refine bOk_b3 (x_addProject h.x (by omega) hz) fun r1 tp1 np1 hx => bOk_s ?_
        refine bOk_b2 (f_save h.z h.r) fun rows1 sm1 hr => ?_
        refine bOk_b1 (f_openNow h.z (by omega) hz) fun z1 hz1 => ?_
        rw [hz1.r0, bw_b1_s]
        refine bOk_s ⟨.inl ⟨rfl, rfl, ?_⟩, bopn s r bf, bpush s H, hx.2, hk, hz1, hr, (h.i.opd (by omega) c1 c2).bc (by omega) (by omega), fun t ht => ?_⟩
        · have := hx.1
          dsimp only at this ⊢
          rw [this, bRX.n h.x, show (1 : Int32) = iv 1 from rfl, iv_sub]
          show iv s.1 = iv (((s.1 + 1 : Nat) : Int) - 1)
          congr 1
          omega
        · rcases bpush_in ht with rfl | ht
          · exact h.i.bc (by omega) (by omega)
          · exact (h.hi t ht).bc (by omega) (by omega)
      · rw [if_neg c3, if_pos (by omega)]
        exact bOk_s (bOk_s ⟨.inr ⟨by simp, by simp, by simp, by simp⟩, h.same⟩)
    · rw [if_neg c2, if_neg c2]
      exact bOk_s (bOk_s ⟨.inr ⟨by simp, by simp, by simp, by simp⟩, h.same⟩)
  · rw [if_neg c1, if_neg c1]
    exact bOk_s (bOk_s ⟨.inr ⟨by simp, by simp, by simp, by simp⟩, h.same⟩)
theorem thn0 {α : Type} (x y : Option α) : bw_thn 0 x y = y := rfl
theorem thn1 {α : Type} (k : Nat) (x y : Option α) (h : k ≠ 0) : bw_thn k x y = x := if_neg h
theorem op_plan (h : bDK s H f b d sl hn hs z rows sm) (th p1 p2 : Int32) : bOk (fX5_plan d sl hn hs p1 p2) fun c => bOk (fX6_plan z rows sm th p1 p2) fun m => bAg (fun e => if e = 1 then 1 else if e = 2 then 2 else if e = 3 then 3 else 0) c.1 c.2.1 m.1 m.2.2.2.2 ∧ ∃ s' H', bDK s' H' (f + 600) (b + 310000) c.2.2.1 c.2.2.2.1 c.2.2.2.2.1 c.2.2.2.2.2 m.2.1 m.2.2.1 m.2.2.2.1 := by
  have h6 := h.np6
  have hp1 := r32_of p1
  have hp2 := r32_of p2
  rw [← iv_of p1, ← iv_of p2]
  generalize p1.toInt = p at hp1 ⊢
  generalize p2.toInt = days at hp2 ⊢
  unfold fX5_plan fX6_plan jX6_plan_59 fX6_fails
  rw [f_needProject h.x hp1, bw_b1_s, f_isProject h.z hp1, bw_b1_s, ite_10]
  by_cases c1 : 0 ≤ p ∧ p ≤ (s.1 : Int) - 1
  · obtain ⟨k, rfl, hk⟩ := isP c1
    rw [if_pos c1, if_pos c1, thn0]
    rw [show fX5_isOutside (iv days) 1 60 = some (if 1 ≤ days ∧ days ≤ 60 then 0 else 1) from f_out (l := 1) (m := 60) hp2 (r32i (by omega) (by omega)) (r32i (by omega) (by omega)), bw_b1_s, ite_01]
    rw [show fX6_in (iv days) 1 60 = some (if 1 ≤ days ∧ days ≤ 60 then 1 else 0) from f_in (l := 1) (m := 60) hp2 (r32i (by omega) (by omega)) (r32i (by omega) (by omega)), bw_b1_s, ite_10]
    by_cases c2 : 1 ≤ days ∧ days ≤ 60
    · have hmn := h.i.mn k hk
      rw [if_pos c2, if_pos c2, x_isOpen (bRX.xs h.x) (by omega) (h.i.m.op k hk), bw_b1_s, ite_10, f_isOpen h.z hk (h.i.m.op k hk), bw_b1_s, ite_10]
      by_cases c3 : s.2.1 k 7 = 1
      · rw [if_pos c3, if_pos c3, x_part h.x hk 7 (by omega) (by omega), bw_b1_s, f_at, bw_b1_s, h.z.rP hk 5 (by omega) (by omega), bw_b1_s]
        rw [show bT (bTP s.2.1) s.2.2.1 s.2.2.2.1 k 7 = s.2.1 k 5 from rfl, show (8 : Int32) = iv 8 from rfl, ite_lt (r32i (by omega) (by omega)) (r32i (by omega) (by omega)), ite_iv (r32i (by omega) (by omega)) (r32i (by omega) (by omega))]
        by_cases c4 : s.2.1 k 5 < 8
        · rw [if_pos c4, if_neg (by omega)]
          refine bOk_b3 (x_keep h.x h.h) fun sl1 hn1 hs1 hk1 => ?_
          refine bOk_b3 (x_addTask h.x hk (by omega) (by omega)) fun r1 tp1 tk1 hx => bOk_s ?_
          refine bOk_b2 (f_save h.z h.r) fun rows1 sm1 hr => ?_
          refine bOk_b1 (f_planNow h.z hk (by omega)) fun z1 hz1 => ?_
          rw [bw_b1_s, hz1.rP hk 5 (by omega) (by omega), bw_b1_s]
          refine bOk_s ⟨.inl ⟨rfl, rfl, ?_⟩, bpln s k days, bpush s H, hx.2, hk1, hz1, hr, (h.i.plan hk c4 c2).bc (by omega) (by omega), fun t ht => ?_⟩
          · have := hx.1
            dsimp only at this ⊢
            rw [this, show (1 : Int32) = iv 1 from rfl, show (bpln s k days).2.1 k 5 = s.2.1 k 5 + 1 from up2_self _ _ _ _, iv_sub]
            congr 1
            omega
          · rcases bpush_in ht with rfl | ht
            · exact h.i.bc (by omega) (by omega)
            · exact (h.hi t ht).bc (by omega) (by omega)
        · rw [if_neg c4, if_pos (by omega)]
          exact bOk_s (bOk_s ⟨.inr ⟨by simp, by simp, by simp, by simp⟩, h.same⟩)
      · rw [if_neg c3, if_neg c3]
        exact bOk_s (bOk_s ⟨.inr ⟨by simp, by simp, by simp, by simp⟩, h.same⟩)
    · rw [if_neg c2, if_neg c2]
      exact bOk_s (bOk_s ⟨.inr ⟨by simp, by simp, by simp, by simp⟩, h.same⟩)
  · rw [if_neg c1, if_neg c1, thn1 _ _ _ (by omega)]
    exact bOk_s (bOk_s ⟨.inr ⟨by simp, by simp, by simp, by simp⟩, h.same⟩)
end
