/- needs: 63.digest3 -/
/-! ===== the law: every call agrees ===== -/
theorem f_thr (th : Int32) : fX6_thrown th = some th := rfl
theorem lg_self (x : Int64) : lg_cmp x x = 0 := by
  unfold lg_cmp
  rw [if_neg (by intro h; exact Int64.lt_irrefl h), if_pos rfl]
theorem bDK.fb {s : bSt} {H : List bSt} {f b f' b' : Int} {d : Nat → Nat → Int32} {sl : Nat → Nat → Nat → Int32} {hn hs : Int32} {z rows : Nat → Int32} {sm : Int32} (h : bDK s H f b d sl hn hs z rows sm) (hf : f ≤ f') (hb : b ≤ b') : bDK s H f' b' d sl hn hs z rows sm := ⟨h.x, h.h, h.z, h.r, h.i.bc hf hb, fun t ht => (h.hi t ht).bc hf hb⟩
/-- the class and the reference stand alike, after j calls at the most -/
abbrev bRel (j : Nat) (d : bw_A2) (sl : bw_A3) (hn hs : Int32) (cs : bw_A1) (ln rt : Int32) (z rows : bw_A1) (sm : Int32) (buf : bw_A1) (bm : Int32) : Prop := ∃ (s : bSt) (H : List bSt) (C : List Int) (u : Nat), bDK s H (600 * j) (310000 * j) d sl hn hs z rows sm ∧ bTX cs ln C ∧ bTX buf bm C ∧ rt = iv u ∧ u ≤ 8
theorem bRel.mk {j : Nat} {d : bw_A2} {sl : bw_A3} {hn hs : Int32} {cs : bw_A1} {ln rt : Int32} {z rows : bw_A1} {sm : Int32} {buf : bw_A1} {bm : Int32} {C : List Int} {u : Nat} (h : ∃ s' H', bDK s' H' (600 * (j : Int) + 600) (310000 * (j : Int) + 310000) d sl hn hs z rows sm) (h1 : bTX cs ln C) (h2 : bTX buf bm C) (h3 : rt = iv u) (h4 : u ≤ 8) : bRel (j + 1) d sl hn hs cs ln rt z rows sm buf bm := by
  obtain ⟨s', H', h0⟩ := h
  exact ⟨s', H', C, u, h0.fb (by omega) (by omega), h1, h2, h3, h4⟩
set_option maxHeartbeats 4000000 in
set_option maxRecDepth 4096 in
theorem l_law {L : Nat} (hL : L ≤ 2048) (xs : Nat → Int32) : ∀ (n j : Nat) (d : bw_A2) (t : bw_A2) (sl : bw_A3) (hn : Int32) (hs : Int32) (cs : bw_A1) (ln : Int32) (rp : Int32) (rn : Int32) (rt : Int32) (z : bw_A1) (rows : bw_A1) (asd : bw_A1) (sm : Int32) (buf : bw_A1) (bm : Int32) (th : Int32) (od : bw_A1) (om : Int32) (ow : Int32) (ca : Int32) (bo : Int32) (la : Int32) (pl : Int32) (to : Int32) (rd : bw_A1) (hh : Int64) (ou : Nat → Int64), bRel j d sl hn hs cs ln rt z rows sm buf bm → j ≤ 512 → 513 - j < n → lL_law_23 L xs n d t sl hn hs cs ln rp rn rt z rows asd sm buf bm th od om ow ca bo la pl to rd hh ou (iv ((4 * j : Nat) : Int)) = some () := by
  intro n
  induction n with
  | zero => intro j; intros; omega
  | succ n ih =>
    intro j d t sl hn hs cs ln rp rn rt z rows asd sm buf bm th od om ow ca bo la pl to rd hh ou hrel0 hj hn0
    obtain ⟨s, H, C, u, h, hC, hB, hu, hu8⟩ := hrel0
    show bL_law_23 L xs (lL_law_23 L xs n) d t sl hn hs cs ln rp rn rt z rows asd sm buf bm th od om ow ca bo la pl to rd hh ou (iv ((4 * j : Nat) : Int)) = some ()
    unfold bL_law_23
    have e4 : (Int32.ofNat L - 4 : Int32) = iv ((L : Int) - 4) := by
      rw [show Int32.ofNat L = iv L from rfl, show (4 : Int32) = iv 4 from rfl, iv_sub]
    rw [e4, ite_lt (r32i (by omega) (by omega)) (r32n (by omega))]
    by_cases cL : (L : Int) - 4 < ((4 * j : Nat) : Int)
    · rw [if_pos cL]
    rw [if_neg cL]
    have hrd : ∀ c : Nat, c < 4 → bw_rd L xs (iv ((4 * j + c : Nat) : Int)) = some (xs (4 * j + c)) := by
      intro c hc
      rw [iv_rd (by omega) (by omega) (by omega)]
      rfl
    have r0 : bw_rd L xs (iv ((4 * j : Nat) : Int)) = some (xs (4 * j)) := hrd 0 (by omega)
    have r1 : bw_rd L xs (iv ((4 * j : Nat) : Int) + 1) = some (xs (4 * j + 1)) := by
      rw [show (1 : Int32) = iv 1 from rfl, iv_add]; exact hrd 1 (by omega)
    have r2 : bw_rd L xs (iv ((4 * j : Nat) : Int) + 2) = some (xs (4 * j + 2)) := by
      rw [show (2 : Int32) = iv 2 from rfl, iv_add]; exact hrd 2 (by omega)
    have r3 : bw_rd L xs (iv ((4 * j : Nat) : Int) + 3) = some (xs (4 * j + 3)) := by
      rw [show (3 : Int32) = iv 3 from rfl, iv_add]; exact hrd 3 (by omega)
    rw [r0, bw_b1_s]
    have hf : (0 : Int) ≤ 600 * (j : Int) ∧ 600 * (j : Int) ≤ 310000 := by omega
    have hb : 310000 * (j : Int) ≤ 200000000 := by omega
    have hl : bDL s (600 * (j : Int)) (310000 * (j : Int)) d z := ⟨h.x, h.z, h.i, hf.2, hf.1, hb⟩
    have hnext : ∀ (d : bw_A2) (t : bw_A2) (sl : bw_A3) (hn : Int32) (hs : Int32) (cs : bw_A1) (ln : Int32) (rp : Int32) (rn : Int32) (rt : Int32) (z : bw_A1) (rows : bw_A1) (asd : bw_A1) (sm : Int32) (buf : bw_A1) (bm : Int32) (th : Int32) (od : bw_A1) (om : Int32) (ow : Int32) (ca : Int32) (bo : Int32) (la : Int32) (pl : Int32) (to : Int32) (rd : bw_A1) (hh : Int64) (ou : Nat → Int64), bRel (j + 1) d sl hn hs cs ln rt z rows sm buf bm → jL_law_1618 L xs (lL_law_23 L xs n) d t sl hn hs cs ln rp rn rt z rows asd sm buf bm th od om ow ca bo la pl to rd hh ou (iv ((4 * j : Nat) : Int)) = some () := by
      intro d t sl hn hs cs ln rp rn rt z rows asd sm buf bm th od om ow ca bo la pl to rd hh ou hR
      unfold jL_law_1618
      rw [bw_let_s, show (4 : Int32) = iv 4 from rfl, iv_add, show ((4 * j : Nat) : Int) + 4 = ((4 * (j + 1) : Nat) : Int) by omega]
      exact ih (j + 1) d t sl hn hs cs ln rp rn rt z rows asd sm buf bm th od om ow ca bo la pl to rd hh ou hR (by omega) (by omega)
    by_cases c0 : (xs (4 * j) &&& 31) = 0
    · rw [if_pos c0]
      simp only [r1, r2, r3, bw_b1_s, f_thr]
      obtain ⟨⟨ec, q1, d1, sl1, hn1, hs1⟩, hc, ⟨b1, z1, rows1, sm1, th1⟩, hm, hag, hrel⟩ := op_open h th (xs (4 * j + 1)) (xs (4 * j + 2))
      dsimp only at hag hrel
      have hk : ∃ (kk : Int32) (ou1 : Nat → Int64), fL_open d sl hn hs (xs (4 * j + 1)) (xs (4 * j + 2)) ou = some (kk, d1, sl1, hn1, hs1, ou1) ∧ th1 = kk ∧ (kk = 0 → ou1 0 = Int32.toInt64 b1) := by
        unfold fL_open
        rw [hc, bw_b6_s]
        rcases hag with ⟨h1, h2, h3⟩ | ⟨h1, h2, h3, h4⟩
        · subst h1
          exact ⟨0, _, rfl, h2, fun _ => by show Int32.toInt64 q1 = _; rw [h3]⟩
        · have h5 : ec = 1 ∨ ec = 2 ∨ ec = 3 := by omega
          rcases h5 with rfl | rfl | rfl
          · first | exact ⟨_, ou, rfl, h3, fun q => absurd q (by decide)⟩ | exact absurd rfl h4
          · first | exact ⟨_, ou, rfl, h3, fun q => absurd q (by decide)⟩ | exact absurd rfl h4
          · first | exact ⟨_, ou, rfl, h3, fun q => absurd q (by decide)⟩ | exact absurd rfl h4
      obtain ⟨kk, ou1, k1, k2, k3⟩ := hk
      rw [k1, bw_b6_s, hm, bw_b5_s, if_pos k2]
      have hR : bRel (j + 1) d1 sl1 hn1 hs1 cs ln rt z1 rows1 sm1 buf bm := bRel.mk hrel hC hB hu hu8
      by_cases q : kk = 0
      · rw [if_pos q, k3 q, lg_self, if_pos rfl]
        exact hnext _ _ _ _ _ _ _ _ _ _ _ _ _ _ _ _ _ _ _ _ _ _ _ _ _ _ _ _ hR
      · rw [if_neg q]
        exact hnext _ _ _ _ _ _ _ _ _ _ _ _ _ _ _ _ _ _ _ _ _ _ _ _ _ _ _ _ hR
    rw [if_neg c0]
    by_cases c1 : (xs (4 * j) &&& 31) = 1
    · rw [if_pos c1]
      simp only [r1, r2, r3, bw_b1_s, f_thr]
      obtain ⟨⟨ec, q1, d1, sl1, hn1, hs1⟩, hc, ⟨b1, z1, rows1, sm1, th1⟩, hm, hag, hrel⟩ := op_plan h th (xs (4 * j + 1)) (xs (4 * j + 2))
      dsimp only at hag hrel
      have hk : ∃ (kk : Int32) (ou1 : Nat → Int64), fL_plan d sl hn hs (xs (4 * j + 1)) (xs (4 * j + 2)) ou = some (kk, d1, sl1, hn1, hs1, ou1) ∧ th1 = kk ∧ (kk = 0 → ou1 0 = Int32.toInt64 b1) := by
        unfold fL_plan
        rw [hc, bw_b6_s]
        rcases hag with ⟨h1, h2, h3⟩ | ⟨h1, h2, h3, h4⟩
        · subst h1
          exact ⟨0, _, rfl, h2, fun _ => by show Int32.toInt64 q1 = _; rw [h3]⟩
        · have h5 : ec = 1 ∨ ec = 2 ∨ ec = 3 := by omega
          rcases h5 with rfl | rfl | rfl
          · first | exact ⟨_, ou, rfl, h3, fun q => absurd q (by decide)⟩ | exact absurd rfl h4
          · first | exact ⟨_, ou, rfl, h3, fun q => absurd q (by decide)⟩ | exact absurd rfl h4
          · first | exact ⟨_, ou, rfl, h3, fun q => absurd q (by decide)⟩ | exact absurd rfl h4
      obtain ⟨kk, ou1, k1, k2, k3⟩ := hk
      rw [k1, bw_b6_s, hm, bw_b5_s, if_pos k2]
      have hR : bRel (j + 1) d1 sl1 hn1 hs1 cs ln rt z1 rows1 sm1 buf bm := bRel.mk hrel hC hB hu hu8
      by_cases q : kk = 0
      · rw [if_pos q, k3 q, lg_self, if_pos rfl]
        exact hnext _ _ _ _ _ _ _ _ _ _ _ _ _ _ _ _ _ _ _ _ _ _ _ _ _ _ _ _ hR
      · rw [if_neg q]
        exact hnext _ _ _ _ _ _ _ _ _ _ _ _ _ _ _ _ _ _ _ _ _ _ _ _ _ _ _ _ hR
    rw [if_neg c1]
    by_cases c2 : (xs (4 * j) &&& 31) = 2
    · rw [if_pos c2]
      simp only [r1, r2, r3, bw_b1_s, f_thr]
      obtain ⟨⟨ec, q1, d1, sl1, hn1, hs1⟩, hc, ⟨b1, z1, rows1, sm1, th1⟩, hm, hag, hrel⟩ := op_rank h th (xs (4 * j + 1)) (xs (4 * j + 2))
      dsimp only at hag hrel
      have hk : ∃ (kk : Int32) (ou1 : Nat → Int64), fL_rank d sl hn hs (xs (4 * j + 1)) (xs (4 * j + 2)) ou = some (kk, d1, sl1, hn1, hs1, ou1) ∧ th1 = kk ∧ (kk = 0 → ou1 0 = Int32.toInt64 b1) := by
        unfold fL_rank
        rw [hc, bw_b6_s]
        rcases hag with ⟨h1, h2, h3⟩ | ⟨h1, h2, h3, h4⟩
        · subst h1
          exact ⟨0, _, rfl, h2, fun _ => by show Int32.toInt64 q1 = _; rw [h3]⟩
        · have h5 : ec = 1 ∨ ec = 2 ∨ ec = 3 := by omega
          rcases h5 with rfl | rfl | rfl
          · first | exact ⟨_, ou, rfl, h3, fun q => absurd q (by decide)⟩ | exact absurd rfl h4
          · first | exact ⟨_, ou, rfl, h3, fun q => absurd q (by decide)⟩ | exact absurd rfl h4
          · first | exact ⟨_, ou, rfl, h3, fun q => absurd q (by decide)⟩ | exact absurd rfl h4
      obtain ⟨kk, ou1, k1, k2, k3⟩ := hk
      rw [k1, bw_b6_s, hm, bw_b5_s, if_pos k2]
      have hR : bRel (j + 1) d1 sl1 hn1 hs1 cs ln rt z1 rows1 sm1 buf bm := bRel.mk hrel hC hB hu hu8
      by_cases q : kk = 0
      · rw [if_pos q, k3 q, lg_self, if_pos rfl]
        exact hnext _ _ _ _ _ _ _ _ _ _ _ _ _ _ _ _ _ _ _ _ _ _ _ _ _ _ _ _ hR
      · rw [if_neg q]
        exact hnext _ _ _ _ _ _ _ _ _ _ _ _ _ _ _ _ _ _ _ _ _ _ _ _ _ _ _ _ hR
    rw [if_neg c2]
    by_cases c3 : (xs (4 * j) &&& 31) = 3
    · rw [if_pos c3]
      simp only [r1, r2, r3, bw_b1_s, f_thr]
      obtain ⟨⟨ec, q1, d1, sl1, hn1, hs1⟩, hc, ⟨b1, z1, rows1, sm1, th1⟩, hm, hag, hrel⟩ := op_set h th (xs (4 * j + 1)) (xs (4 * j + 2))
      dsimp only at hag hrel
      have hk : ∃ (kk : Int32) (ou1 : Nat → Int64), fL_set d sl hn hs (xs (4 * j + 1)) (xs (4 * j + 2)) ou = some (kk, d1, sl1, hn1, hs1, ou1) ∧ th1 = kk ∧ (kk = 0 → ou1 0 = Int32.toInt64 b1) := by
        unfold fL_set
        rw [hc, bw_b6_s]
        rcases hag with ⟨h1, h2, h3⟩ | ⟨h1, h2, h3, h4⟩
        · subst h1
          exact ⟨0, _, rfl, h2, fun _ => by show Int32.toInt64 q1 = _; rw [h3]⟩
        · have h5 : ec = 1 ∨ ec = 2 ∨ ec = 3 := by omega
          rcases h5 with rfl | rfl | rfl
          · first | exact ⟨_, ou, rfl, h3, fun q => absurd q (by decide)⟩ | exact absurd rfl h4
          · first | exact ⟨_, ou, rfl, h3, fun q => absurd q (by decide)⟩ | exact absurd rfl h4
          · first | exact ⟨_, ou, rfl, h3, fun q => absurd q (by decide)⟩ | exact absurd rfl h4
      obtain ⟨kk, ou1, k1, k2, k3⟩ := hk
      rw [k1, bw_b6_s, hm, bw_b5_s, if_pos k2]
      have hR : bRel (j + 1) d1 sl1 hn1 hs1 cs ln rt z1 rows1 sm1 buf bm := bRel.mk hrel hC hB hu hu8
      by_cases q : kk = 0
      · rw [if_pos q, k3 q, lg_self, if_pos rfl]
        exact hnext _ _ _ _ _ _ _ _ _ _ _ _ _ _ _ _ _ _ _ _ _ _ _ _ _ _ _ _ hR
      · rw [if_neg q]
        exact hnext _ _ _ _ _ _ _ _ _ _ _ _ _ _ _ _ _ _ _ _ _ _ _ _ _ _ _ _ hR
    rw [if_neg c3]
    by_cases c4 : (xs (4 * j) &&& 31) = 4
    · rw [if_pos c4]
      simp only [r1, r2, r3, bw_b1_s, f_thr]
      obtain ⟨⟨ec, q1, d1, sl1, hn1, hs1⟩, hc, ⟨b1, z1, rows1, sm1, th1, od1, om1, ow1, ca1, bo1, la1⟩, hm, hag, hrel⟩ := op_done h hf hb th (xs (4 * j + 1)) (xs (4 * j + 2)) od om ow ca bo la
      dsimp only at hag hrel
      have hk : ∃ (kk : Int32) (ou1 : Nat → Int64), fL_done d sl hn hs (xs (4 * j + 1)) (xs (4 * j + 2)) ou = some (kk, d1, sl1, hn1, hs1, ou1) ∧ th1 = kk ∧ (kk = 0 → ou1 0 = Int32.toInt64 b1) := by
        unfold fL_done
        rw [hc, bw_b6_s]
        rcases hag with ⟨h1, h2, h3⟩ | ⟨h1, h2, h3, h4⟩
        · subst h1
          exact ⟨0, _, rfl, h2, fun _ => by show Int32.toInt64 q1 = _; rw [h3]⟩
        · have h5 : ec = 1 ∨ ec = 2 ∨ ec = 3 := by omega
          rcases h5 with rfl | rfl | rfl
          · first | exact ⟨_, ou, rfl, h3, fun q => absurd q (by decide)⟩ | exact absurd rfl h4
          · first | exact ⟨_, ou, rfl, h3, fun q => absurd q (by decide)⟩ | exact absurd rfl h4
          · first | exact ⟨_, ou, rfl, h3, fun q => absurd q (by decide)⟩ | exact absurd rfl h4
      obtain ⟨kk, ou1, k1, k2, k3⟩ := hk
      rw [k1, bw_b6_s, hm, bw_b11_s, if_pos k2]
      have hR : bRel (j + 1) d1 sl1 hn1 hs1 cs ln rt z1 rows1 sm1 buf bm := bRel.mk hrel hC hB hu hu8
      by_cases q : kk = 0
      · rw [if_pos q, k3 q, lg_self, if_pos rfl]
        exact hnext _ _ _ _ _ _ _ _ _ _ _ _ _ _ _ _ _ _ _ _ _ _ _ _ _ _ _ _ hR
      · rw [if_neg q]
        exact hnext _ _ _ _ _ _ _ _ _ _ _ _ _ _ _ _ _ _ _ _ _ _ _ _ _ _ _ _ hR
    rw [if_neg c4]
    by_cases c5 : (xs (4 * j) &&& 31) = 5
    · rw [if_pos c5]
      simp only [r1, r2, r3, bw_b1_s, f_thr]
      obtain ⟨⟨ec, q1, d1, sl1, hn1, hs1⟩, hc, ⟨b1, z1, rows1, sm1, th1⟩, hm, hag, hrel⟩ := op_lend h hf hb th (xs (4 * j + 1)) (xs (4 * j + 2)) (xs (4 * j + 3))
      dsimp only at hag hrel
      have hk : ∃ (kk : Int32) (ou1 : Nat → Int64), fL_lend d sl hn hs (xs (4 * j + 1)) (xs (4 * j + 2)) (xs (4 * j + 3)) ou = some (kk, d1, sl1, hn1, hs1, ou1) ∧ th1 = kk ∧ (kk = 0 → ou1 0 = Int32.toInt64 b1) := by
        unfold fL_lend
        rw [hc, bw_b6_s]
        rcases hag with ⟨h1, h2, h3⟩ | ⟨h1, h2, h3, h4⟩
        · subst h1
          exact ⟨0, _, rfl, h2, fun _ => by show Int32.toInt64 q1 = _; rw [h3]⟩
        · have h5 : ec = 1 ∨ ec = 2 ∨ ec = 3 := by omega
          rcases h5 with rfl | rfl | rfl
          · first | exact ⟨_, ou, rfl, h3, fun q => absurd q (by decide)⟩ | exact absurd rfl h4
          · first | exact ⟨_, ou, rfl, h3, fun q => absurd q (by decide)⟩ | exact absurd rfl h4
          · first | exact ⟨_, ou, rfl, h3, fun q => absurd q (by decide)⟩ | exact absurd rfl h4
      obtain ⟨kk, ou1, k1, k2, k3⟩ := hk
      rw [k1, bw_b6_s, hm, bw_b5_s, if_pos k2]
      have hR : bRel (j + 1) d1 sl1 hn1 hs1 cs ln rt z1 rows1 sm1 buf bm := bRel.mk hrel hC hB hu hu8
      by_cases q : kk = 0
      · rw [if_pos q, k3 q, lg_self, if_pos rfl]
        exact hnext _ _ _ _ _ _ _ _ _ _ _ _ _ _ _ _ _ _ _ _ _ _ _ _ _ _ _ _ hR
      · rw [if_neg q]
        exact hnext _ _ _ _ _ _ _ _ _ _ _ _ _ _ _ _ _ _ _ _ _ _ _ _ _ _ _ _ hR
    rw [if_neg c5]
    by_cases c6 : (xs (4 * j) &&& 31) = 6
    · rw [if_pos c6]
      simp only [r1, r2, r3, bw_b1_s, f_thr]
      obtain ⟨⟨ec, q1, d1, sl1, hn1, hs1⟩, hc, ⟨b1, z1, rows1, sm1, th1⟩, hm, hag, hrel⟩ := op_payBack h hf hb th (xs (4 * j + 1)) (xs (4 * j + 2)) (xs (4 * j + 3))
      dsimp only at hag hrel
      have hk : ∃ (kk : Int32) (ou1 : Nat → Int64), fL_payBack d sl hn hs (xs (4 * j + 1)) (xs (4 * j + 2)) (xs (4 * j + 3)) ou = some (kk, d1, sl1, hn1, hs1, ou1) ∧ th1 = kk ∧ (kk = 0 → ou1 0 = Int32.toInt64 b1) := by
        unfold fL_payBack
        rw [hc, bw_b6_s]
        rcases hag with ⟨h1, h2, h3⟩ | ⟨h1, h2, h3, h4⟩
        · subst h1
          exact ⟨0, _, rfl, h2, fun _ => by show Int32.toInt64 q1 = _; rw [h3]⟩
        · have h5 : ec = 1 ∨ ec = 2 ∨ ec = 3 := by omega
          rcases h5 with rfl | rfl | rfl
          · first | exact ⟨_, ou, rfl, h3, fun q => absurd q (by decide)⟩ | exact absurd rfl h4
          · first | exact ⟨_, ou, rfl, h3, fun q => absurd q (by decide)⟩ | exact absurd rfl h4
          · first | exact ⟨_, ou, rfl, h3, fun q => absurd q (by decide)⟩ | exact absurd rfl h4
      obtain ⟨kk, ou1, k1, k2, k3⟩ := hk
      rw [k1, bw_b6_s, hm, bw_b5_s, if_pos k2]
      have hR : bRel (j + 1) d1 sl1 hn1 hs1 cs ln rt z1 rows1 sm1 buf bm := bRel.mk hrel hC hB hu hu8
      by_cases q : kk = 0
      · rw [if_pos q, k3 q, lg_self, if_pos rfl]
        exact hnext _ _ _ _ _ _ _ _ _ _ _ _ _ _ _ _ _ _ _ _ _ _ _ _ _ _ _ _ hR
      · rw [if_neg q]
        exact hnext _ _ _ _ _ _ _ _ _ _ _ _ _ _ _ _ _ _ _ _ _ _ _ _ _ _ _ _ hR
    rw [if_neg c6]
    by_cases c7 : (xs (4 * j) &&& 31) = 7
    · rw [if_pos c7]
      simp only [r1, r2, r3, bw_b1_s, f_thr]
      obtain ⟨⟨ec, q1, d1, sl1, hn1, hs1⟩, hc, ⟨b1, z1, rows1, sm1, th1⟩, hm, hag, hrel⟩ := op_close h hf hb th (xs (4 * j + 1))
      dsimp only at hag hrel
      have hk : ∃ (kk : Int32) (ou1 : Nat → Int64), fL_close d sl hn hs (xs (4 * j + 1)) ou = some (kk, d1, sl1, hn1, hs1, ou1) ∧ th1 = kk ∧ (kk = 0 → ou1 0 = Int32.toInt64 b1) := by
        unfold fL_close
        rw [hc, bw_b6_s]
        rcases hag with ⟨h1, h2, h3⟩ | ⟨h1, h2, h3, h4⟩
        · subst h1
          exact ⟨0, _, rfl, h2, fun _ => by show Int32.toInt64 q1 = _; rw [h3]⟩
        · have h5 : ec = 1 ∨ ec = 2 ∨ ec = 3 := by omega
          rcases h5 with rfl | rfl | rfl
          · first | exact ⟨_, ou, rfl, h3, fun q => absurd q (by decide)⟩ | exact absurd rfl h4
          · first | exact ⟨_, ou, rfl, h3, fun q => absurd q (by decide)⟩ | exact absurd rfl h4
          · first | exact ⟨_, ou, rfl, h3, fun q => absurd q (by decide)⟩ | exact absurd rfl h4
      obtain ⟨kk, ou1, k1, k2, k3⟩ := hk
      rw [k1, bw_b6_s, hm, bw_b5_s, if_pos k2]
      have hR : bRel (j + 1) d1 sl1 hn1 hs1 cs ln rt z1 rows1 sm1 buf bm := bRel.mk hrel hC hB hu hu8
      by_cases q : kk = 0
      · rw [if_pos q, k3 q, lg_self, if_pos rfl]
        exact hnext _ _ _ _ _ _ _ _ _ _ _ _ _ _ _ _ _ _ _ _ _ _ _ _ _ _ _ _ hR
      · rw [if_neg q]
        exact hnext _ _ _ _ _ _ _ _ _ _ _ _ _ _ _ _ _ _ _ _ _ _ _ _ _ _ _ _ hR
    rw [if_neg c7]
    by_cases c8 : (xs (4 * j) &&& 31) = 8
    · rw [if_pos c8]
      simp only [r1, r2, r3, bw_b1_s, f_thr]
      obtain ⟨⟨ec, q1, cs1, ln1⟩, hc, ⟨b1, buf1, bm1, th1⟩, hm, hag, C1, hC1, hB1⟩ := op_append hC hB th (xs (4 * j + 1))
      dsimp only at hag hC1 hB1
      have hk : ∃ (kk : Int32) (ou1 : Nat → Int64), fL_append cs ln (xs (4 * j + 1)) ou = some (kk, cs1, ln1, ou1) ∧ th1 = kk ∧ (kk = 0 → ou1 0 = Int32.toInt64 b1) := by
        unfold fL_append
        rw [hc, bw_b4_s]
        rcases hag with ⟨h1, h2, h3⟩ | ⟨h1, h2, h3, h4⟩
        · subst h1
          exact ⟨0, _, rfl, h2, fun _ => by show Int32.toInt64 q1 = _; rw [h3]⟩
        · have h5 : ec = 1 ∨ ec = 2 ∨ ec = 3 := by omega
          rcases h5 with rfl | rfl | rfl
          · first | exact ⟨_, ou, rfl, h3, fun q => absurd q (by decide)⟩ | exact absurd rfl h4
          · first | exact ⟨_, ou, rfl, h3, fun q => absurd q (by decide)⟩ | exact absurd rfl h4
          · first | exact ⟨_, ou, rfl, h3, fun q => absurd q (by decide)⟩ | exact absurd rfl h4
      obtain ⟨kk, ou1, k1, k2, k3⟩ := hk
      rw [k1, bw_b4_s, hm, bw_b4_s, if_pos k2]
      have hR : bRel (j + 1) d sl hn hs cs1 ln1 rt z rows sm buf1 bm1 := bRel.mk h.same hC1 hB1 hu hu8
      by_cases q : kk = 0
      · rw [if_pos q, k3 q, lg_self, if_pos rfl]
        exact hnext _ _ _ _ _ _ _ _ _ _ _ _ _ _ _ _ _ _ _ _ _ _ _ _ _ _ _ _ hR
      · rw [if_neg q]
        exact hnext _ _ _ _ _ _ _ _ _ _ _ _ _ _ _ _ _ _ _ _ _ _ _ _ _ _ _ _ hR
    rw [if_neg c8]
    by_cases c9 : (xs (4 * j) &&& 31) = 9
    · rw [if_pos c9]
      obtain ⟨⟨q1, ln1⟩, hc, ⟨b1, bm1, th1⟩, hm, h1, h2, h3, h4⟩ := op_clear hC hB th
      dsimp only at h1 h3 h4
      rw [hc, bw_b2_s, hm, bw_b3_s, if_pos h1]
      have hR : bRel (j + 1) d sl hn hs cs ln1 rt z rows sm buf bm1 := bRel.mk h.same h3 h4 hu hu8
      exact hnext _ _ _ _ _ _ _ _ _ _ _ _ _ _ _ _ _ _ _ _ _ _ _ _ _ _ _ _ hR
    rw [if_neg c9]
    by_cases c10 : (xs (4 * j) &&& 31) = 10
    · rw [if_pos c10]
      obtain ⟨⟨q1, rp1, rn1, rt1⟩, hc, ⟨b1, th1, pl1, to1, rd1⟩, hm, h1, h2, u1, h3, h4⟩ := op_firstError hB hC (rp := rp) (rn := rn) hu hu8 th pl to rd
      dsimp only at h1 h4
      rw [hc, bw_b4_s, hm, bw_b5_s, if_pos h1]
      have hR : bRel (j + 1) d sl hn hs cs ln rt1 z rows sm buf bm := bRel.mk h.same hC hB h4 h3
      exact hnext _ _ _ _ _ _ _ _ _ _ _ _ _ _ _ _ _ _ _ _ _ _ _ _ _ _ _ _ hR
    rw [if_neg c10]
    by_cases c11 : (xs (4 * j) &&& 31) = 11
    · rw [if_pos c11]
      simp only [r1, r2, r3, bw_b1_s, f_thr]
      obtain ⟨⟨ec, q1, d1, sl1, hn1, hs1, ln1, rp1, rn1, rt1⟩, hc, ⟨b1, z1, rows1, sm1, bm1, th1, pl1, to1, rd1⟩, hm, hag, hrel, ⟨C1, hC1, hB1⟩, u1, hu1, hu2⟩ := op_beginAll h hf.1 hC hB (rp := rp) (rn := rn) hu hu8 th pl to rd
      dsimp only at hag hrel hC1 hB1 hu2
      have hk : ∃ (kk : Int32) (ou1 : Nat → Int64), fL_openAll d sl hn hs cs ln rp rn rt ou = some (kk, d1, sl1, hn1, hs1, ln1, rp1, rn1, rt1, ou1) ∧ th1 = kk ∧ (kk = 0 → ou1 0 = Int32.toInt64 b1) := by
        unfold fL_openAll
        rw [hc, bw_b10_s]
        rcases hag with ⟨h1, h2, h3⟩ | ⟨h1, h2, h3, h4⟩
        · subst h1
          exact ⟨0, _, rfl, h2, fun _ => by show Int32.toInt64 q1 = _; rw [h3]⟩
        · have h5 : ec = 1 ∨ ec = 2 ∨ ec = 3 := by omega
          rcases h5 with rfl | rfl | rfl
          · first | exact ⟨_, ou, rfl, h3, fun q => absurd q (by decide)⟩ | exact absurd rfl h4
          · first | exact ⟨_, ou, rfl, h3, fun q => absurd q (by decide)⟩ | exact absurd rfl h4
          · first | exact ⟨_, ou, rfl, h3, fun q => absurd q (by decide)⟩ | exact absurd rfl h4
      obtain ⟨kk, ou1, k1, k2, k3⟩ := hk
      rw [k1, bw_b10_s, hm, bw_b9_s, if_pos k2]
      have hR : bRel (j + 1) d1 sl1 hn1 hs1 cs ln1 rt1 z1 rows1 sm1 buf bm1 := bRel.mk hrel hC1 hB1 hu2 hu1
      by_cases q : kk = 0
      · rw [if_pos q, k3 q, lg_self, if_pos rfl]
        exact hnext _ _ _ _ _ _ _ _ _ _ _ _ _ _ _ _ _ _ _ _ _ _ _ _ _ _ _ _ hR
      · rw [if_neg q]
        exact hnext _ _ _ _ _ _ _ _ _ _ _ _ _ _ _ _ _ _ _ _ _ _ _ _ _ _ _ _ hR
    rw [if_neg c11]
    by_cases c12 : (xs (4 * j) &&& 31) = 12
    · rw [if_pos c12]
      simp only [r1, r2, r3, bw_b1_s, f_thr]
      obtain ⟨⟨ec, q1, d1, hn1, hs1⟩, hc, ⟨b1, z1, sm1, th1⟩, hm, hag, hrel⟩ := op_undo h th
      dsimp only at hag hrel
      have hk : ∃ (kk : Int32) (ou1 : Nat → Int64), fL_undo d sl hn hs ou = some (kk, d1, hn1, hs1, ou1) ∧ th1 = kk ∧ (kk = 0 → ou1 0 = Int32.toInt64 b1) := by
        unfold fL_undo
        rw [hc, bw_b5_s]
        rcases hag with ⟨h1, h2, h3⟩ | ⟨h1, h2, h3, h4⟩
        · subst h1
          exact ⟨0, _, rfl, h2, fun _ => by show Int32.toInt64 q1 = _; rw [h3]⟩
        · have h5 : ec = 1 ∨ ec = 2 ∨ ec = 3 := by omega
          rcases h5 with rfl | rfl | rfl
          · first | exact ⟨_, ou, rfl, h3, fun q => absurd q (by decide)⟩ | exact absurd rfl h4
          · first | exact ⟨_, ou, rfl, h3, fun q => absurd q (by decide)⟩ | exact absurd rfl h4
          · first | exact ⟨_, ou, rfl, h3, fun q => absurd q (by decide)⟩ | exact absurd rfl h4
      obtain ⟨kk, ou1, k1, k2, k3⟩ := hk
      rw [k1, bw_b5_s, hm, bw_b4_s, if_pos k2]
      have hR : bRel (j + 1) d1 sl hn1 hs1 cs ln rt z1 rows sm1 buf bm := bRel.mk hrel hC hB hu hu8
      by_cases q : kk = 0
      · rw [if_pos q, k3 q, lg_self, if_pos rfl]
        exact hnext _ _ _ _ _ _ _ _ _ _ _ _ _ _ _ _ _ _ _ _ _ _ _ _ _ _ _ _ hR
      · rw [if_neg q]
        exact hnext _ _ _ _ _ _ _ _ _ _ _ _ _ _ _ _ _ _ _ _ _ _ _ _ _ _ _ _ hR
    rw [if_neg c12]
    by_cases c13 : (xs (4 * j) &&& 31) = 13
    · rw [if_pos c13]
      simp only [r1, r2, r3, bw_b1_s, f_thr]
      obtain ⟨⟨ec, q1⟩, hc, ⟨b1, th1⟩, hm, hag⟩ := op_project hl th (xs (4 * j + 1)) (xs (4 * j + 2))
      dsimp only at hag
      have hk : ∃ (kk : Int32) (ou1 : Nat → Int64), fL_project d (xs (4 * j + 1)) (xs (4 * j + 2)) ou = some (kk, ou1) ∧ th1 = kk ∧ (kk = 0 → ou1 0 = Int32.toInt64 b1) := by
        unfold fL_project
        rw [hc, bw_b2_s]
        rcases hag with ⟨h1, h2, h3⟩ | ⟨h1, h2, h3, h4⟩
        · subst h1
          exact ⟨0, _, rfl, h2, fun _ => by show Int32.toInt64 q1 = _; rw [h3]⟩
        · have h5 : ec = 1 ∨ ec = 2 ∨ ec = 3 := by omega
          rcases h5 with rfl | rfl | rfl
          · first | exact ⟨_, ou, rfl, h3, fun q => absurd q (by decide)⟩ | exact absurd rfl h4
          · first | exact ⟨_, ou, rfl, h3, fun q => absurd q (by decide)⟩ | exact absurd rfl h4
          · first | exact ⟨_, ou, rfl, h3, fun q => absurd q (by decide)⟩ | exact absurd rfl h4
      obtain ⟨kk, ou1, k1, k2, k3⟩ := hk
      rw [k1, bw_b2_s, hm, bw_b2_s, if_pos k2]
      have hR : bRel (j + 1) d sl hn hs cs ln rt z rows sm buf bm := bRel.mk h.same hC hB hu hu8
      by_cases q : kk = 0
      · rw [if_pos q, k3 q, lg_self, if_pos rfl]
        exact hnext _ _ _ _ _ _ _ _ _ _ _ _ _ _ _ _ _ _ _ _ _ _ _ _ _ _ _ _ hR
      · rw [if_neg q]
        exact hnext _ _ _ _ _ _ _ _ _ _ _ _ _ _ _ _ _ _ _ _ _ _ _ _ _ _ _ _ hR
    rw [if_neg c13]
    by_cases c14 : (xs (4 * j) &&& 31) = 14
    · rw [if_pos c14]
      simp only [r1, r2, r3, bw_b1_s, f_thr]
      obtain ⟨⟨ec, q1⟩, hc, ⟨b1, th1⟩, hm, hag⟩ := op_task hl th (xs (4 * j + 1)) (xs (4 * j + 2)) (xs (4 * j + 3))
      dsimp only at hag
      have hk : ∃ (kk : Int32) (ou1 : Nat → Int64), fL_task d (xs (4 * j + 1)) (xs (4 * j + 2)) (xs (4 * j + 3)) ou = some (kk, ou1) ∧ th1 = kk ∧ (kk = 0 → ou1 0 = Int32.toInt64 b1) := by
        unfold fL_task
        rw [hc, bw_b2_s]
        rcases hag with ⟨h1, h2, h3⟩ | ⟨h1, h2, h3, h4⟩
        · subst h1
          exact ⟨0, _, rfl, h2, fun _ => by show Int32.toInt64 q1 = _; rw [h3]⟩
        · have h5 : ec = 1 ∨ ec = 2 ∨ ec = 3 := by omega
          rcases h5 with rfl | rfl | rfl
          · first | exact ⟨_, ou, rfl, h3, fun q => absurd q (by decide)⟩ | exact absurd rfl h4
          · first | exact ⟨_, ou, rfl, h3, fun q => absurd q (by decide)⟩ | exact absurd rfl h4
          · first | exact ⟨_, ou, rfl, h3, fun q => absurd q (by decide)⟩ | exact absurd rfl h4
      obtain ⟨kk, ou1, k1, k2, k3⟩ := hk
      rw [k1, bw_b2_s, hm, bw_b2_s, if_pos k2]
      have hR : bRel (j + 1) d sl hn hs cs ln rt z rows sm buf bm := bRel.mk h.same hC hB hu hu8
      by_cases q : kk = 0
      · rw [if_pos q, k3 q, lg_self, if_pos rfl]
        exact hnext _ _ _ _ _ _ _ _ _ _ _ _ _ _ _ _ _ _ _ _ _ _ _ _ _ _ _ _ hR
      · rw [if_neg q]
        exact hnext _ _ _ _ _ _ _ _ _ _ _ _ _ _ _ _ _ _ _ _ _ _ _ _ _ _ _ _ hR
    rw [if_neg c14]
    by_cases c15 : (xs (4 * j) &&& 31) = 15
    · rw [if_pos c15]
      simp only [r1, r2, r3, bw_b1_s, f_thr]
      obtain ⟨⟨ec, q1⟩, hc, ⟨b1, th1⟩, hm, hag⟩ := op_loan hl th (xs (4 * j + 1)) (xs (4 * j + 2))
      dsimp only at hag
      have hk : ∃ (kk : Int32) (ou1 : Nat → Int64), fL_loan d (xs (4 * j + 1)) (xs (4 * j + 2)) ou = some (kk, ou1) ∧ th1 = kk ∧ (kk = 0 → ou1 0 = Int32.toInt64 b1) := by
        unfold fL_loan
        rw [hc, bw_b2_s]
        rcases hag with ⟨h1, h2, h3⟩ | ⟨h1, h2, h3, h4⟩
        · subst h1
          exact ⟨0, _, rfl, h2, fun _ => by show Int32.toInt64 q1 = _; rw [h3]⟩
        · have h5 : ec = 1 ∨ ec = 2 ∨ ec = 3 := by omega
          rcases h5 with rfl | rfl | rfl
          · first | exact ⟨_, ou, rfl, h3, fun q => absurd q (by decide)⟩ | exact absurd rfl h4
          · first | exact ⟨_, ou, rfl, h3, fun q => absurd q (by decide)⟩ | exact absurd rfl h4
          · first | exact ⟨_, ou, rfl, h3, fun q => absurd q (by decide)⟩ | exact absurd rfl h4
      obtain ⟨kk, ou1, k1, k2, k3⟩ := hk
      rw [k1, bw_b2_s, hm, bw_b2_s, if_pos k2]
      have hR : bRel (j + 1) d sl hn hs cs ln rt z rows sm buf bm := bRel.mk h.same hC hB hu hu8
      by_cases q : kk = 0
      · rw [if_pos q, k3 q, lg_self, if_pos rfl]
        exact hnext _ _ _ _ _ _ _ _ _ _ _ _ _ _ _ _ _ _ _ _ _ _ _ _ _ _ _ _ hR
      · rw [if_neg q]
        exact hnext _ _ _ _ _ _ _ _ _ _ _ _ _ _ _ _ _ _ _ _ _ _ _ _ _ _ _ _ hR
    rw [if_neg c15]
    by_cases c16 : (xs (4 * j) &&& 31) = 16
    · rw [if_pos c16]
      simp only [r1, r2, r3, bw_b1_s, f_thr]
      obtain ⟨⟨ec, q1⟩, hc, ⟨b1, th1⟩, hm, hag⟩ := op_owed hl th (xs (4 * j + 1)) (xs (4 * j + 2))
      dsimp only at hag
      have hk : ∃ (kk : Int32) (ou1 : Nat → Int64), fL_owed d (xs (4 * j + 1)) (xs (4 * j + 2)) ou = some (kk, ou1) ∧ th1 = kk ∧ (kk = 0 → ou1 0 = Int32.toInt64 b1) := by
        unfold fL_owed
        rw [hc, bw_b2_s]
        rcases hag with ⟨h1, h2, h3⟩ | ⟨h1, h2, h3, h4⟩
        · subst h1
          exact ⟨0, _, rfl, h2, fun _ => by show Int32.toInt64 q1 = _; rw [h3]⟩
        · have h5 : ec = 1 ∨ ec = 2 ∨ ec = 3 := by omega
          rcases h5 with rfl | rfl | rfl
          · first | exact ⟨_, ou, rfl, h3, fun q => absurd q (by decide)⟩ | exact absurd rfl h4
          · first | exact ⟨_, ou, rfl, h3, fun q => absurd q (by decide)⟩ | exact absurd rfl h4
          · first | exact ⟨_, ou, rfl, h3, fun q => absurd q (by decide)⟩ | exact absurd rfl h4
      obtain ⟨kk, ou1, k1, k2, k3⟩ := hk
      rw [k1, bw_b2_s, hm, bw_b2_s, if_pos k2]
      have hR : bRel (j + 1) d sl hn hs cs ln rt z rows sm buf bm := bRel.mk h.same hC hB hu hu8
      by_cases q : kk = 0
      · rw [if_pos q, k3 q, lg_self, if_pos rfl]
        exact hnext _ _ _ _ _ _ _ _ _ _ _ _ _ _ _ _ _ _ _ _ _ _ _ _ _ _ _ _ hR
      · rw [if_neg q]
        exact hnext _ _ _ _ _ _ _ _ _ _ _ _ _ _ _ _ _ _ _ _ _ _ _ _ _ _ _ _ hR
    rw [if_neg c16]
    by_cases c17 : (xs (4 * j) &&& 31) = 17
    · rw [if_pos c17]
      simp only [r1, r2, r3, bw_b1_s, f_thr]
      obtain ⟨⟨ec, q1, d1⟩, hc, ⟨b1, th1, od1, om1⟩, hm, hag, hd1⟩ := op_lender hl th (xs (4 * j + 1)) (xs (4 * j + 2)) od om
      dsimp only at hag hd1
      have hk : ∃ (kk : Int32) (ou1 : Nat → Int64), fL_lender d (xs (4 * j + 1)) (xs (4 * j + 2)) ou = some (kk, d1, ou1) ∧ th1 = kk ∧ (kk = 0 → ou1 0 = Int32.toInt64 b1) := by
        unfold fL_lender
        rw [hc, bw_b3_s]
        rcases hag with ⟨h1, h2, h3⟩ | ⟨h1, h2, h3, h4⟩
        · subst h1
          exact ⟨0, _, rfl, h2, fun _ => by show Int32.toInt64 q1 = _; rw [h3]⟩
        · have h5 : ec = 1 ∨ ec = 2 ∨ ec = 3 := by omega
          rcases h5 with rfl | rfl | rfl
          · first | exact ⟨_, ou, rfl, h3, fun q => absurd q (by decide)⟩ | exact absurd rfl h4
          · first | exact ⟨_, ou, rfl, h3, fun q => absurd q (by decide)⟩ | exact absurd rfl h4
          · first | exact ⟨_, ou, rfl, h3, fun q => absurd q (by decide)⟩ | exact absurd rfl h4
      obtain ⟨kk, ou1, k1, k2, k3⟩ := hk
      rw [k1, bw_b3_s, hm, bw_b4_s, if_pos k2]
      have hR : bRel (j + 1) d1 sl hn hs cs ln rt z rows sm buf bm := bRel.mk (bDK.same (show bDK s H _ _ d1 sl hn hs z rows sm from ⟨hd1, h.h, h.z, h.r, h.i, h.hi⟩)) hC hB hu hu8
      by_cases q : kk = 0
      · rw [if_pos q, k3 q, lg_self, if_pos rfl]
        exact hnext _ _ _ _ _ _ _ _ _ _ _ _ _ _ _ _ _ _ _ _ _ _ _ _ _ _ _ _ hR
      · rw [if_neg q]
        exact hnext _ _ _ _ _ _ _ _ _ _ _ _ _ _ _ _ _ _ _ _ _ _ _ _ _ _ _ _ hR
    rw [if_neg c17]
    by_cases c18 : (xs (4 * j) &&& 31) = 18
    · rw [if_pos c18]
      simp only [r1, r2, r3, bw_b1_s, f_thr]
      obtain ⟨⟨ec, q1⟩, hc, ⟨b1, th1⟩, hm, hag⟩ := op_count hl hs sm h.h.n h.r.n th (xs (4 * j + 1))
      dsimp only at hag
      have hk : ∃ (kk : Int32) (ou1 : Nat → Int64), fL_count d hs (xs (4 * j + 1)) ou = some (kk, ou1) ∧ th1 = kk ∧ (kk = 0 → ou1 0 = Int32.toInt64 b1) := by
        unfold fL_count
        rw [hc, bw_b2_s]
        rcases hag with ⟨h1, h2, h3⟩ | ⟨h1, h2, h3, h4⟩
        · subst h1
          exact ⟨0, _, rfl, h2, fun _ => by show Int32.toInt64 q1 = _; rw [h3]⟩
        · have h5 : ec = 1 ∨ ec = 2 ∨ ec = 3 := by omega
          rcases h5 with rfl | rfl | rfl
          · first | exact ⟨_, ou, rfl, h3, fun q => absurd q (by decide)⟩ | exact absurd rfl h4
          · first | exact ⟨_, ou, rfl, h3, fun q => absurd q (by decide)⟩ | exact absurd rfl h4
          · first | exact ⟨_, ou, rfl, h3, fun q => absurd q (by decide)⟩ | exact absurd rfl h4
      obtain ⟨kk, ou1, k1, k2, k3⟩ := hk
      rw [k1, bw_b2_s, hm, bw_b2_s, if_pos k2]
      have hR : bRel (j + 1) d sl hn hs cs ln rt z rows sm buf bm := bRel.mk h.same hC hB hu hu8
      by_cases q : kk = 0
      · rw [if_pos q, k3 q, lg_self, if_pos rfl]
        exact hnext _ _ _ _ _ _ _ _ _ _ _ _ _ _ _ _ _ _ _ _ _ _ _ _ _ _ _ _ hR
      · rw [if_neg q]
        exact hnext _ _ _ _ _ _ _ _ _ _ _ _ _ _ _ _ _ _ _ _ _ _ _ _ _ _ _ _ hR
    rw [if_neg c18]
    by_cases c19 : (xs (4 * j) &&& 31) = 19
    · rw [if_pos c19]
      simp only [r1, r2, r3, bw_b1_s, f_thr]
      obtain ⟨⟨ec, q1⟩, hc, ⟨b1, th1⟩, hm, hag⟩ := op_setting hl th (xs (4 * j + 1))
      dsimp only at hag
      have hk : ∃ (kk : Int32) (ou1 : Nat → Int64), fL_setting d (xs (4 * j + 1)) ou = some (kk, ou1) ∧ th1 = kk ∧ (kk = 0 → ou1 0 = Int32.toInt64 b1) := by
        unfold fL_setting
        rw [hc, bw_b2_s]
        rcases hag with ⟨h1, h2, h3⟩ | ⟨h1, h2, h3, h4⟩
        · subst h1
          exact ⟨0, _, rfl, h2, fun _ => by show Int32.toInt64 q1 = _; rw [h3]⟩
        · have h5 : ec = 1 ∨ ec = 2 ∨ ec = 3 := by omega
          rcases h5 with rfl | rfl | rfl
          · first | exact ⟨_, ou, rfl, h3, fun q => absurd q (by decide)⟩ | exact absurd rfl h4
          · first | exact ⟨_, ou, rfl, h3, fun q => absurd q (by decide)⟩ | exact absurd rfl h4
          · first | exact ⟨_, ou, rfl, h3, fun q => absurd q (by decide)⟩ | exact absurd rfl h4
      obtain ⟨kk, ou1, k1, k2, k3⟩ := hk
      rw [k1, bw_b2_s, hm, bw_b2_s, if_pos k2]
      have hR : bRel (j + 1) d sl hn hs cs ln rt z rows sm buf bm := bRel.mk h.same hC hB hu hu8
      by_cases q : kk = 0
      · rw [if_pos q, k3 q, lg_self, if_pos rfl]
        exact hnext _ _ _ _ _ _ _ _ _ _ _ _ _ _ _ _ _ _ _ _ _ _ _ _ _ _ _ _ hR
      · rw [if_neg q]
        exact hnext _ _ _ _ _ _ _ _ _ _ _ _ _ _ _ _ _ _ _ _ _ _ _ _ _ _ _ _ hR
    rw [if_neg c19]
    by_cases c20 : (xs (4 * j) &&& 31) = 20
    · rw [if_pos c20]
      simp only [r1, r2, r3, bw_b1_s, f_thr]
      obtain ⟨⟨ec, q1, t1⟩, hc, ⟨b1, z1, asd1, th1, od1, om1, ow1, ca1, bo1, la1⟩, hm, hag, hz1⟩ := op_ifDone (t := t) (asd := asd) (od := od) (om := om) (ow := ow) (ca := ca) (bo := bo) (la := la) hl th (xs (4 * j + 1)) (xs (4 * j + 2)) (xs (4 * j + 3))
      dsimp only at hag hz1
      have hk : ∃ (kk : Int32) (ou1 : Nat → Int64), fL_ifDone d t (xs (4 * j + 1)) (xs (4 * j + 2)) (xs (4 * j + 3)) ou = some (kk, t1, ou1) ∧ th1 = kk ∧ (kk = 0 → ou1 0 = Int32.toInt64 b1) := by
        unfold fL_ifDone
        rw [hc, bw_b3_s]
        rcases hag with ⟨h1, h2, h3⟩ | ⟨h1, h2, h3, h4⟩
        · subst h1
          exact ⟨0, _, rfl, h2, fun _ => by show Int32.toInt64 q1 = _; rw [h3]⟩
        · have h5 : ec = 1 ∨ ec = 2 ∨ ec = 3 := by omega
          rcases h5 with rfl | rfl | rfl
          · first | exact ⟨_, ou, rfl, h3, fun q => absurd q (by decide)⟩ | exact absurd rfl h4
          · first | exact ⟨_, ou, rfl, h3, fun q => absurd q (by decide)⟩ | exact absurd rfl h4
          · first | exact ⟨_, ou, rfl, h3, fun q => absurd q (by decide)⟩ | exact absurd rfl h4
      obtain ⟨kk, ou1, k1, k2, k3⟩ := hk
      rw [k1, bw_b3_s, hm, bw_b10_s, if_pos k2]
      have hR : bRel (j + 1) d sl hn hs cs ln rt z1 rows sm buf bm := bRel.mk (bDK.same (show bDK s H _ _ d sl hn hs z1 rows sm from ⟨h.x, h.h, hz1, h.r, h.i, h.hi⟩)) hC hB hu hu8
      by_cases q : kk = 0
      · rw [if_pos q, k3 q, lg_self, if_pos rfl]
        exact hnext _ _ _ _ _ _ _ _ _ _ _ _ _ _ _ _ _ _ _ _ _ _ _ _ _ _ _ _ hR
      · rw [if_neg q]
        exact hnext _ _ _ _ _ _ _ _ _ _ _ _ _ _ _ _ _ _ _ _ _ _ _ _ _ _ _ _ hR
    rw [if_neg c20]
    by_cases c21 : (xs (4 * j) &&& 31) = 21
    · rw [if_pos c21]
      simp only [r1, r2, r3, bw_b1_s, f_thr]
      obtain ⟨⟨ec, q1⟩, hc, ⟨b1, z1, asd1, th1, od1, om1, ow1, ca1, bo1, la1⟩, hm, hag, hz1⟩ := op_bears (asd := asd) (od := od) (om := om) (ow := ow) (ca := ca) (bo := bo) (la := la) hl th (xs (4 * j + 1))
      dsimp only at hag hz1
      have hk : ∃ (kk : Int32) (ou1 : Nat → Int64), fL_bears d (xs (4 * j + 1)) ou = some (kk, ou1) ∧ th1 = kk ∧ (kk = 0 → ou1 0 = Int32.toInt64 b1) := by
        unfold fL_bears
        rw [hc, bw_b2_s]
        rcases hag with ⟨h1, h2, h3⟩ | ⟨h1, h2, h3, h4⟩
        · subst h1
          exact ⟨0, _, rfl, h2, fun _ => by show Int32.toInt64 q1 = _; rw [h3]⟩
        · have h5 : ec = 1 ∨ ec = 2 ∨ ec = 3 := by omega
          rcases h5 with rfl | rfl | rfl
          · first | exact ⟨_, ou, rfl, h3, fun q => absurd q (by decide)⟩ | exact absurd rfl h4
          · first | exact ⟨_, ou, rfl, h3, fun q => absurd q (by decide)⟩ | exact absurd rfl h4
          · first | exact ⟨_, ou, rfl, h3, fun q => absurd q (by decide)⟩ | exact absurd rfl h4
      obtain ⟨kk, ou1, k1, k2, k3⟩ := hk
      rw [k1, bw_b2_s, hm, bw_b10_s, if_pos k2]
      have hR : bRel (j + 1) d sl hn hs cs ln rt z1 rows sm buf bm := bRel.mk (bDK.same (show bDK s H _ _ d sl hn hs z1 rows sm from ⟨h.x, h.h, hz1, h.r, h.i, h.hi⟩)) hC hB hu hu8
      by_cases q : kk = 0
      · rw [if_pos q, k3 q, lg_self, if_pos rfl]
        exact hnext _ _ _ _ _ _ _ _ _ _ _ _ _ _ _ _ _ _ _ _ _ _ _ _ _ _ _ _ hR
      · rw [if_neg q]
        exact hnext _ _ _ _ _ _ _ _ _ _ _ _ _ _ _ _ _ _ _ _ _ _ _ _ _ _ _ _ hR
    rw [if_neg c21]
    by_cases c22 : (xs (4 * j) &&& 31) = 22
    · rw [if_pos c22]
      obtain ⟨⟨b1, z1, asd1, od1, om1, ow1, ca1, bo1, la1⟩, hm, h1, hz1⟩ := f_weakestOf (asd := asd) (od := od) (om := om) (ow := ow) (ca := ca) (bo := bo) (la := la) hl
      dsimp only at h1 hz1
      unfold fX5_weakest fX6_weakest
      rw [x_weakest hl, bw_b1_s, bw_b1_s, hm, bw_b9_s, bw_b10_s, if_pos h1.symm]
      have hR : bRel (j + 1) d sl hn hs cs ln rt z1 rows sm buf bm := bRel.mk (bDK.same (show bDK s H _ _ d sl hn hs z1 rows sm from ⟨h.x, h.h, hz1, h.r, h.i, h.hi⟩)) hC hB hu hu8
      exact hnext _ _ _ _ _ _ _ _ _ _ _ _ _ _ _ _ _ _ _ _ _ _ _ _ _ _ _ _ hR
    rw [if_neg c22]
    by_cases c23 : (xs (4 * j) &&& 31) = 23
    · rw [if_pos c23]
      simp only [r1, r2, r3, bw_b1_s, f_thr]
      obtain ⟨⟨ec, q1, t1⟩, hc, ⟨b1, z1, asd1, th1, od1, om1, ow1, ca1, bo1, la1⟩, hm, hag, hz1⟩ := op_bestRule (t := t) (asd := asd) (od := od) (om := om) (ow := ow) (ca := ca) (bo := bo) (la := la) hl th (xs (4 * j + 1)) (xs (4 * j + 2))
      dsimp only at hag hz1
      have hk : ∃ (kk : Int32) (ou1 : Nat → Int64), fL_bestRule d t (xs (4 * j + 1)) (xs (4 * j + 2)) ou = some (kk, t1, ou1) ∧ th1 = kk ∧ (kk = 0 → ou1 0 = Int32.toInt64 b1) := by
        unfold fL_bestRule
        rw [hc, bw_b3_s]
        rcases hag with ⟨h1, h2, h3⟩ | ⟨h1, h2, h3, h4⟩
        · subst h1
          exact ⟨0, _, rfl, h2, fun _ => by show Int32.toInt64 q1 = _; rw [h3]⟩
        · have h5 : ec = 1 ∨ ec = 2 ∨ ec = 3 := by omega
          rcases h5 with rfl | rfl | rfl
          · first | exact ⟨_, ou, rfl, h3, fun q => absurd q (by decide)⟩ | exact absurd rfl h4
          · first | exact ⟨_, ou, rfl, h3, fun q => absurd q (by decide)⟩ | exact absurd rfl h4
          · first | exact ⟨_, ou, rfl, h3, fun q => absurd q (by decide)⟩ | exact absurd rfl h4
      obtain ⟨kk, ou1, k1, k2, k3⟩ := hk
      rw [k1, bw_b3_s, hm, bw_b10_s, if_pos k2]
      have hR : bRel (j + 1) d sl hn hs cs ln rt z1 rows sm buf bm := bRel.mk (bDK.same (show bDK s H _ _ d sl hn hs z1 rows sm from ⟨h.x, h.h, hz1, h.r, h.i, h.hi⟩)) hC hB hu hu8
      by_cases q : kk = 0
      · rw [if_pos q, k3 q, lg_self, if_pos rfl]
        exact hnext _ _ _ _ _ _ _ _ _ _ _ _ _ _ _ _ _ _ _ _ _ _ _ _ _ _ _ _ hR
      · rw [if_neg q]
        exact hnext _ _ _ _ _ _ _ _ _ _ _ _ _ _ _ _ _ _ _ _ _ _ _ _ _ _ _ _ hR
    rw [if_neg c23]
    by_cases c24 : (xs (4 * j) &&& 31) = 24
    · rw [if_pos c24]
      unfold fX6_lateShare
      rw [x_share hl, bw_b1_s, f_share hl, bw_b1_s, bw_b2_s, if_pos (bshr_bits hl).2.2]
      have hR : bRel (j + 1) d sl hn hs cs ln rt z rows sm buf bm := bRel.mk h.same hC hB hu hu8
      exact hnext _ _ _ _ _ _ _ _ _ _ _ _ _ _ _ _ _ _ _ _ _ _ _ _ _ _ _ _ hR
    rw [if_neg c24]
    by_cases c25 : (xs (4 * j) &&& 31) = 25
    · rw [if_pos c25]
      obtain ⟨⟨q1, d1, t1⟩, hc, h1, hd1⟩ := x_digest hC (t := t) hl h.h.n
      obtain ⟨⟨b1, z1, asd1, th1, od1, om1, ow1, ca1, bo1, la1, hh1⟩, hm, h2, hz1, h3⟩ := f_digest (th := th) hB (asd := asd) (od := od) (om := om) (ow := ow) (ca := ca) (bo := bo) (la := la) hl h.r.n hh
      dsimp only at h1 hd1 h2 hz1
      have hlen : H.length = H.length := rfl
      rw [hc, bw_b3_s, hm, bw_b11_s, h1, h2, lg_self, if_pos rfl]
      have hR : bRel (j + 1) d1 sl hn hs cs ln rt z1 rows sm buf bm := bRel.mk (bDK.same (show bDK s H _ _ d1 sl hn hs z1 rows sm from ⟨hd1, h.h, hz1, h.r, h.i, h.hi⟩)) hC hB hu hu8
      exact hnext _ _ _ _ _ _ _ _ _ _ _ _ _ _ _ _ _ _ _ _ _ _ _ _ _ _ _ _ hR
    rw [if_neg c25]
    exact hnext _ _ _ _ _ _ _ _ _ _ _ _ _ _ _ _ _ _ _ _ _ _ _ _ _ _ _ _ (bRel.mk h.same hC hB hu hu8)
