/- needs: 46.bears -/
/-! ===== the weakest project, the best rule ===== -/
section
variable {s : bSt} {f b : Int} {d t : Nat → Nat → Int32} {z asd od : Nat → Int32} {om ow ca bo la : Int32}
def bwk (s : bSt) : Nat → Nat → Int → Int → Int
  | 0, _, best, _ => best
  | e + 1, k, best, least => if s.2.1 k 7 = 1 ∧ (best = -1 ∨ bbr s k < least) then bwk s e (k + 1) k (bbr s k) else bwk s e (k + 1) best least
theorem bwk_s (s : bSt) (e k : Nat) (best least : Int) : bwk s (e + 1) k best least = if s.2.1 k 7 = 1 ∧ (best = -1 ∨ bbr s k < least) then bwk s e (k + 1) k (bbr s k) else bwk s e (k + 1) best least := rfl
theorem bbg_r (hi : bIn s f b) (hf : f ≤ 310000) {k j : Nat} (hj : j < s.1) : 0 ≤ bbg s k j ∧ bbg s k j ≤ 2 * s.2.2.1 j := by
  have hF := hi.m.F0 j hj
  have hbn := bow_nn hi k j
  have hk := bkept (hi.m.bf j hj) hi.m.s1
  unfold bbg
  split <;> omega
theorem bbs_r (hi : bIn s f b) (hf : f ≤ 310000) {k : Nat} : ∀ n, n ≤ s.1 → 0 ≤ bbs s k n ∧ bbs s k n ≤ 2 * bsF s.2.2.1 n := by
  intro n
  induction n with
  | zero => intro _; exact ⟨Int.le_refl _, Int.le_refl _⟩
  | succ n ih =>
    intro hn
    have h1 := ih (by omega)
    have h2 := bbg_r hi hf (k := k) (j := n) (by omega)
    show 0 ≤ bbs s k n + bbg s k n ∧ bbs s k n + bbg s k n ≤ 2 * (bsF s.2.2.1 n + s.2.2.1 n)
    omega
theorem bbr_r (hi : bIn s f b) (hf : f ≤ 310000) {k : Nat} (hk : k < s.1) : -1 ≤ bbr s k ∧ bbr s k ≤ 2000000 ∧ (s.2.1 k 7 = 1 ↔ bbr s k ≠ -1) := by
  have h1 := bbs_r hi hf (k := k) s.1 (Nat.le_refl _)
  have h2 := hi.m.FS
  have h3 := hi.m.Fr (by omega) k hk
  unfold bbr
  split
  · rename_i c
    refine ⟨by omega, by omega, fun _ => by omega, fun _ => c⟩
  · rename_i c
    refine ⟨by omega, by omega, fun q => absurd q c, fun q => absurd rfl q⟩
theorem l_weak (hx : bDL s f b d z) : ∀ (e n k : Nat) (best least : Int) (z asd od : Nat → Int32) (om ow ca bo la : Int32), bRZ z s → k + e = s.1 → e < n → -1 ≤ best ∧ best < 6 → r32 least → bOk (lX6_weakestOf_6 n z asd od om ow ca bo la (iv best) (iv least) (iv k)) fun r => r.1 = iv (bwk s e k best least) ∧ bRZ r.2.1 s := by
  have h6 := hx.Z.n6
  intro e
  induction e with
  | zero =>
    intro n k best least z asd od om ow ca bo la hz hk hn hb hl
    cases n with
    | zero => omega
    | succ n =>
      show bOk (bX6_weakestOf_6 (lX6_weakestOf_6 n) z asd od om ow ca bo la (iv best) (iv least) (iv k)) _
      unfold bX6_weakestOf_6
      rw [hz.r0, bw_b1_s, ite_le (r32n (by omega)) (r32n (by omega)), if_pos (by omega)]
      exact bOk_s ⟨rfl, hz⟩
  | succ e ih =>
    intro n k best least z asd od om ow ca bo la hz hk hn hb hl
    cases n with
    | zero => omega
    | succ n =>
      have hkn : k < s.1 := by omega
      have hr := bbr_r hx.I hx.fl hkn
      show bOk (bX6_weakestOf_6 (lX6_weakestOf_6 n) z asd od om ow ca bo la (iv best) (iv least) (iv k)) _
      unfold bX6_weakestOf_6
      rw [hz.r0, bw_b1_s, ite_le (r32n (by omega)) (r32n (by omega)), if_neg (by omega)]
      refine bOk_b9 (f_bornBy ⟨hx.1, hz, hx.2.2⟩ hkn) fun r1 z1 a1 o1 m1 w1 c1 b1 l1 h1 => ?_
      obtain ⟨q1, hz1⟩ := h1
      dsimp only at q1 hz1
      subst q1
      have hz1' : bRZ z1 s := hz1
      have yes : bOk (lX6_weakestOf_6 n z1 a1 o1 m1 w1 c1 b1 l1 (iv k) (iv (bbr s k)) (iv ((k + 1 : Nat) : Int))) fun r => r.1 = iv (bwk s e (k + 1) k (bbr s k)) ∧ bRZ r.2.1 s := ih n (k + 1) (k : Int) (bbr s k) z1 a1 o1 m1 w1 c1 b1 l1 hz1' (by omega) (by omega) (by omega) (r32i (by omega) (by omega))
      have no : bOk (lX6_weakestOf_6 n z1 a1 o1 m1 w1 c1 b1 l1 (iv best) (iv least) (iv ((k + 1 : Nat) : Int))) fun r => r.1 = iv (bwk s e (k + 1) best least) ∧ bRZ r.2.1 s := ih n (k + 1) best least z1 a1 o1 m1 w1 c1 b1 l1 hz1' (by omega) (by omega) hb hl
      unfold jX6_weakestOf_44 jX6_weakestOf_40 jX6_weakestOf_45 jX6_weakestOf_57 jX6_weakestOf_69
      rw [if_pos (show (0 : Int32) = 0 from rfl), if_pos (show (0 : Int32) = 0 from rfl), if_neg (show ¬(1 : Int32) = 0 by decide), if_neg (show ¬(1 : Int32) = 0 by decide), bw_let_s, bw_let_s, iv_succ, show (-1 : Int32) = iv (-1) from rfl, ite_iv (r32i (by omega) (by omega)) (r32i (by omega) (by omega)), ite_iv (r32i (by omega) (by omega)) (r32i (by omega) (by omega)), ite_le hl (r32i (by omega) (by omega))]
      rw [bwk_s]
      by_cases co : bbr s k = -1
      · rw [if_pos co, if_neg (fun q => hr.2.2.mp q.1 co)]
        exact no
      · rw [if_neg co]
        have ho := hr.2.2.mpr co
        by_cases cb : best = -1
        · rw [if_pos cb, if_pos ⟨ho, .inl cb⟩]
          exact yes
        · rw [if_neg cb]
          by_cases cl : least ≤ bbr s k
          · rw [if_pos cl, if_neg (fun q => by rcases q.2 with q | q; exact cb q; omega)]
            exact no
          · rw [if_neg cl, if_pos ⟨ho, .inr (by omega)⟩]
            exact yes
theorem f_weakestOf (hx : bDL s f b d z) : bOk (fX6_weakestOf z asd od om ow ca bo la) fun r => r.1 = iv (bwk s s.1 0 (-1) 0) ∧ bRZ r.2.1 s := by
  have h6 := hx.Z.n6
  unfold fX6_weakestOf
  rw [show (-1 : Int32) = iv (-1) from rfl, show (0 : Int32) = iv ((0 : Nat) : Int) from rfl]
  exact l_weak hx s.1 bw_fu 0 (-1) 0 z asd od om ow ca bo la hx.Z (by omega) (by unfold bw_fu; omega) (by omega) (r32i (by omega) (by omega))
/-- the first one is taken whatever is said to be the least -/
theorem bwk_l (s : bSt) : ∀ (e k : Nat) (l1 l2 : Int), bwk s e k (-1) l1 = bwk s e k (-1) l2 := by
  intro e
  induction e with
  | zero => intro k l1 l2; rfl
  | succ e ih =>
    intro k l1 l2
    rw [bwk_s, bwk_s]
    by_cases c : s.2.1 k 7 = 1
    · rw [if_pos ⟨c, .inl rfl⟩, if_pos ⟨c, .inl rfl⟩]
    · rw [if_neg (fun q => c q.1), if_neg (fun q => c q.1)]
      exact ih _ _ _
theorem l_xweak (hx : bDL s f b d z) : ∀ (e n k : Nat) (best least : Int), k + e = s.1 → e < n → -1 ≤ best ∧ best < 6 → r32 least → lX0_weakestProject_6 (d 0) (d 2) (d 3) (d 5 0) (d 5 1) n (iv best) (iv least) (iv k) = some (iv (bwk s e k best least)) := by
  have h6 := hx.Z.n6
  intro e
  induction e with
  | zero =>
    intro n k best least hk hn hb hl
    cases n with
    | zero => omega
    | succ n =>
      show bX0_weakestProject_6 (lX0_weakestProject_6 (d 0) (d 2) (d 3) (d 5 0) (d 5 1) n) (d 0) (d 2) (d 3) (d 5 0) (d 5 1) (iv best) (iv least) (iv k) = _
      unfold bX0_weakestProject_6
      rw [if_pos (by rw [hx.X.n, iv_le (by omega) (by omega) (by omega) (by omega)]; omega)]
      rfl
  | succ e ih =>
    intro n k best least hk hn hb hl
    cases n with
    | zero => omega
    | succ n =>
      have hkn : k < s.1 := by omega
      have hr := bbr_r hx.I hx.fl hkn
      have yes := ih n (k + 1) (k : Int) (bbr s k) (by omega) (by omega) (by omega) (r32i (by omega) (by omega))
      have no := ih n (k + 1) best least (by omega) (by omega) hb hl
      show bX0_weakestProject_6 (lX0_weakestProject_6 (d 0) (d 2) (d 3) (d 5 0) (d 5 1) n) (d 0) (d 2) (d 3) (d 5 0) (d 5 1) (iv best) (iv least) (iv k) = _
      unfold bX0_weakestProject_6 jX0_weakestProject_40 jX0_weakestProject_45
      rw [if_neg (by rw [hx.X.n, iv_le (by omega) (by omega) (by omega) (by omega)]; omega), x_bears hx hkn, bw_b1_s, x_isOpen hx.X.xs (by omega) (hx.I.m.op k hkn), bw_b1_s, ite_10]
      simp only [bw_let_s]
      rw [iv_succ, yes, no, show (-1 : Int32) = iv (-1) from rfl, ite_iv (r32i (by omega) (by omega)) (r32i (by omega) (by omega)), ite_le hl (r32i (by omega) (by omega))]
      rw [bwk_s]
      by_cases co : s.2.1 k 7 = 1
      · rw [if_pos co]
        by_cases cb : best = -1
        · rw [if_pos cb, if_pos ⟨co, .inl cb⟩]
        · rw [if_neg cb]
          by_cases cl : least ≤ bbr s k
          · rw [if_pos cl, if_neg (fun q => by rcases q.2 with q | q; exact cb q; omega)]
          · rw [if_neg cl, if_pos ⟨co, .inr (by omega)⟩]
      · rw [if_neg co, if_neg (fun q => co q.1)]
theorem x_weakest (hx : bDL s f b d z) : fX0_weakestProject (d 0) (d 2) (d 3) (d 5 0) (d 5 1) = some (iv (bwk s s.1 0 (-1) 0)) := by
  have h6 := hx.Z.n6
  rw [bwk_l s s.1 0 0 (-1)]
  unfold fX0_weakestProject
  rw [show (-1 : Int32) = iv (-1) from rfl, show (0 : Int32) = iv ((0 : Nat) : Int) from rfl]
  exact l_xweak hx s.1 bw_fu 0 (-1) (-1) (by omega) (by unfold bw_fu; omega) (by omega) (r32i (by omega) (by omega))
/-! the least days left -/
def bmn (s : bSt) : Nat → Int
  | 0 => 1000000
  | n + 1 => if s.2.1 n 7 = 1 ∧ s.2.2.1 n < bmn s n then s.2.2.1 n else bmn s n
theorem bmn_s (s : bSt) (n : Nat) : bmn s (n + 1) = if s.2.1 n 7 = 1 ∧ s.2.2.1 n < bmn s n then s.2.2.1 n else bmn s n := rfl
theorem bmn_r (hm : bMi s f b) (hf : f ≤ 900000) : ∀ n, n ≤ s.1 → 0 ≤ bmn s n ∧ bmn s n ≤ 1000000 ∧ ((∃ j, j < n ∧ s.2.1 j 7 = 1) → bmn s n ≤ 900000) := by
  intro n
  induction n with
  | zero => intro _; exact ⟨by show (0 : Int) ≤ 1000000; omega, Int.le_refl _, fun ⟨j, hj, _⟩ => by omega⟩
  | succ n ih =>
    intro hn
    have h1 := ih (by omega)
    have h2 := hm.F0 n (by omega)
    have h3 := (bsF_nn hm.F0).2 n (by omega)
    have h4 := hm.FS
    rw [bmn_s]
    split
    · exact ⟨by omega, by omega, fun _ => by omega⟩
    · rename_i c
      refine ⟨h1.1, h1.2.1, fun ⟨j, hj, ho⟩ => ?_⟩
      by_cases e : j = n
      · subst e
        have : ¬ s.2.2.1 j < bmn s j := fun q => c ⟨ho, q⟩
        omega
      · exact h1.2.2 ⟨j, by omega, ho⟩
theorem l_least (hz : bRZ z s) (hm : bMi s f b) (hf : f ≤ 900000) : ∀ (e n k : Nat), k + e = s.1 → e < n → lX6_leastLeft_5 z n (iv (bmn s k)) (iv k) = some (iv (bmn s s.1)) := by
  have h6 := hz.n6
  intro e
  induction e with
  | zero =>
    intro n k hk hn
    cases n with
    | zero => omega
    | succ n =>
      show bX6_leastLeft_5 (lX6_leastLeft_5 z n) z (iv (bmn s k)) (iv k) = _
      unfold bX6_leastLeft_5
      rw [hz.r0, bw_b1_s, ite_le (r32n (by omega)) (r32n (by omega)), if_pos (by omega), show k = s.1 by omega]
  | succ e ih =>
    intro n k hk hn
    cases n with
    | zero => omega
    | succ n =>
      have hkn : k < s.1 := by omega
      have hr := bmn_r hm hf k (by omega)
      have hF := hm.Fr (by omega) k hkn
      have hn2 := ih n (k + 1) (by omega) (by omega)
      have e1 : bmn s (k + 1) = if s.2.1 k 7 = 1 ∧ s.2.2.1 k < bmn s k then s.2.2.1 k else bmn s k := rfl
      rw [e1] at hn2
      show bX6_leastLeft_5 (lX6_leastLeft_5 z n) z (iv (bmn s k)) (iv k) = _
      unfold bX6_leastLeft_5 jX6_leastLeft_52 jX6_leastLeft_53
      simp only [bw_let_s]
      rw [hz.r0, bw_b1_s, ite_le (r32n (by omega)) (r32n (by omega)), if_neg (by omega), f_isOpen hz hkn (hm.op k hkn), bw_b1_s, ite_10, f_at, bw_b1_s, hz.rF hkn, bw_b1_s, ite_le (r32i (by omega) (by omega)) (r32i (by omega) (by omega)), iv_succ]
      by_cases co : s.2.1 k 7 = 1
      · rw [if_pos co]
        by_cases cl : bmn s k ≤ s.2.2.1 k
        · rw [if_pos cl]
          rw [if_neg (fun q => by omega)] at hn2
          exact hn2
        · rw [if_neg cl, bw_b1_s, hz.rF hkn, bw_b1_s]
          rw [if_pos ⟨co, by omega⟩] at hn2
          exact hn2
      · rw [if_neg co]
        rw [if_neg (fun q => co q.1)] at hn2
        exact hn2
theorem f_leastLeft (hz : bRZ z s) (hm : bMi s f b) (hf : f ≤ 900000) : fX6_leastLeft z = some (iv (bmn s s.1)) := l_least hz hm hf s.1 bw_fu 0 (by omega) (by have := hz.n6; unfold bw_fu; omega)
theorem l_xleast (hX : bRX (d 0) (d 1) (d 2) (d 3) (d 5 0) (d 5 1) s) (hm : bMi s f b) (hf : f ≤ 900000) : ∀ (e n k : Nat) (x : Int), k + e = s.1 → e < n → ((x = -1 ∧ ∀ j, j < k → ¬ s.2.1 j 7 = 1) ∨ (x = bmn s k ∧ ∃ j, j < k ∧ s.2.1 j 7 = 1)) → (∃ j, j < s.1 ∧ s.2.1 j 7 = 1) → lX0_leastDaysLeft_4 (d 0) (d 5 0) n (iv x) (iv k) = some (iv (bmn s s.1)) := by
  have h6 := hX.n6
  intro e
  induction e with
  | zero =>
    intro n k x hk hn hx ho
    cases n with
    | zero => omega
    | succ n =>
      show bX0_leastDaysLeft_4 (lX0_leastDaysLeft_4 (d 0) (d 5 0) n) (d 0) (d 5 0) (iv x) (iv k) = _
      unfold bX0_leastDaysLeft_4
      rw [if_pos (by rw [hX.n, iv_le (by omega) (by omega) (by omega) (by omega)]; omega)]
      have ek : k = s.1 := by omega
      rcases hx with ⟨_, h2⟩ | ⟨h1, _⟩
      · obtain ⟨j, hj, hoj⟩ := ho
        exact absurd hoj (h2 j (by omega))
      · rw [h1, ek]
  | succ e ih =>
    intro n k x hk hn hx ho
    cases n with
    | zero => omega
    | succ n =>
      have hkn : k < s.1 := by omega
      have hr := bmn_r hm hf k (by omega)
      have hF := hm.Fr (by omega) k hkn
      have hF9 : s.2.2.1 k ≤ 900000 := by have := (bsF_nn hm.F0).2 k hkn; have := hm.FS; omega
      have e1 : bmn s (k + 1) = if s.2.1 k 7 = 1 ∧ s.2.2.1 k < bmn s k then s.2.2.1 k else bmn s k := rfl
      have hxr : -1 ≤ x ∧ x ≤ 1000000 := by rcases hx with ⟨h1, _⟩ | ⟨h1, _⟩ <;> omega
      show bX0_leastDaysLeft_4 (lX0_leastDaysLeft_4 (d 0) (d 5 0) n) (d 0) (d 5 0) (iv x) (iv k) = _
      unfold bX0_leastDaysLeft_4 jX0_leastDaysLeft_40 jX0_leastDaysLeft_42
      simp only [bw_let_s]
      rw [if_neg (by rw [hX.n, iv_le (by omega) (by omega) (by omega) (by omega)]; omega), hX.x.t.g (by omega) 2 (by omega), bw_b1_s, show bT (bTP s.2.1) s.2.2.1 s.2.2.2.1 k 2 = s.2.2.1 k from rfl, x_isOpen hX.xs (by omega) (hm.op k hkn), bw_b1_s, ite_10, iv_succ, show (-1 : Int32) = iv (-1) from rfl, ite_iv (r32i (by omega) (by omega)) (r32i (by omega) (by omega)), ite_le (r32i (by omega) (by omega)) (r32i (by omega) (by omega))]
      by_cases co : s.2.1 k 7 = 1
      · rw [if_pos co]
        by_cases cx : x = -1
        · rw [if_pos cx]
          refine ih n (k + 1) _ (by omega) (by omega) (.inr ⟨?_, k, by omega, co⟩) ho
          rcases hx with ⟨_, h2⟩ | ⟨h1, h2⟩
          · have hall : ∀ m, m ≤ k → bmn s m = 1000000 := by
              intro m
              induction m with
              | zero => intro _; rfl
              | succ m ihm =>
                intro hm'
                show (if s.2.1 m 7 = 1 ∧ s.2.2.1 m < bmn s m then s.2.2.1 m else bmn s m) = _
                rw [if_neg (fun q => h2 m (by omega) q.1)]
                exact ihm (by omega)
            rw [e1, if_pos ⟨co, by rw [hall k (Nat.le_refl _)]; omega⟩]
          · omega
        · rw [if_neg cx]
          rcases hx with ⟨h1, _⟩ | ⟨h1, h2⟩
          · exact absurd h1 cx
          · by_cases cl : x ≤ s.2.2.1 k
            · rw [if_pos cl]
              refine ih n (k + 1) _ (by omega) (by omega) (.inr ⟨?_, k, by omega, co⟩) ho
              rw [e1, if_neg (fun q => by omega)]
              exact h1
            · rw [if_neg cl]
              refine ih n (k + 1) _ (by omega) (by omega) (.inr ⟨?_, k, by omega, co⟩) ho
              rw [e1, if_pos ⟨co, by omega⟩]
      · rw [if_neg co]
        refine ih n (k + 1) x (by omega) (by omega) ?_ ho
        rcases hx with ⟨h1, h2⟩ | ⟨h1, j, hj, hoj⟩
        · refine .inl ⟨h1, fun j hj => ?_⟩
          by_cases e : j = k
          · subst e; exact co
          · exact h2 j (by omega)
        · refine .inr ⟨?_, j, by omega, hoj⟩
          rw [e1, if_neg (fun q => co q.1)]
          exact h1
theorem x_least (hX : bRX (d 0) (d 1) (d 2) (d 3) (d 5 0) (d 5 1) s) (hm : bMi s f b) (hf : f ≤ 900000) (ho : ∃ j, j < s.1 ∧ s.2.1 j 7 = 1) : fX0_leastDaysLeft (d 0) (d 5 0) = some (iv (bmn s s.1)) := by
  have h6 := hX.n6
  unfold fX0_leastDaysLeft
  rw [show (-1 : Int32) = iv (-1) from rfl, show (0 : Int32) = iv ((0 : Nat) : Int) from rfl]
  exact l_xleast hX hm hf s.1 bw_fu 0 (-1) (by omega) (by unfold bw_fu; omega) (.inl ⟨rfl, fun j hj => by omega⟩) ho
/-! the best rule -/
def bsr (s : bSt) (r : Nat) : bSt := (s.1, s.2.1, s.2.2.1, s.2.2.2.1, up1 s.2.2.2.2.1 0 r, s.2.2.2.2.2)
def brv (s : bSt) (k : Nat) (days : Int) (r : Nat) : Int := bmn (bdo (bsr s r) k days) s.1
def bru (s : bSt) (k : Nat) (days : Int) : Nat → Nat → Int → Int → Int
  | 0, _, best, _ => best
  | e + 1, r, best, most => if brv s k days r ≤ most then bru s k days e (r + 1) best most else bru s k days e (r + 1) r (brv s k days r)
theorem bru_s (s : bSt) (k : Nat) (days : Int) (e r : Nat) (best most : Int) : bru s k days (e + 1) r best most = if brv s k days r ≤ most then bru s k days e (r + 1) best most else bru s k days e (r + 1) r (brv s k days r) := rfl
theorem bsr_in (hi : bIn s f b) {r : Nat} (hr : r < 3) : bIn (bsr s r) f b := hi.set (i := 0) (v := r) (fun _ => by omega) (fun q => absurd rfl q)
theorem brv_r (hi : bIn s f b) (hf : 0 ≤ f ∧ f ≤ 310000) {k : Nat} (hk : k < s.1) (hm : bmd s k) {days : Int} (hd : 0 ≤ days ∧ days ≤ 300) {r : Nat} (hr : r < 3) : 0 ≤ brv s k days r ∧ brv s k days r ≤ 1000000 := by
  have hI := (bsr_in hi hr).do (by omega) (k := k) hk hm.1 hm.2 hd
  have h := bmn_r hI.m (by omega) (bdo (bsr s r) k days).1 (Nat.le_refl _)
  rw [bdo_np] at h
  exact ⟨h.1, h.2.1⟩
theorem l_rule (hx : bDL s f b d z) {k : Nat} (hk : k < s.1) (hm : bmd s k) {days : Int} (hd : 0 ≤ days ∧ days ≤ 300) : ∀ (e n r : Nat) (best most : Int) (z asd od : Nat → Int32) (om ow ca bo la : Int32), bRZ z s → r + e = 3 → e < n → r32 most → bOk (lX6_ruleOf_18 (iv k) (iv days) n z asd od om ow ca bo la (iv best) (iv most) (iv r)) fun q => q.1 = iv (bru s k days e r best most) ∧ bRZ q.2.1 s := by
  have hf := hx.2.2.2.2.1
  have hfl := hx.fl
  have hb := hx.2.2.2.2.2
  intro e
  induction e with
  | zero =>
    intro n r best most z asd od om ow ca bo la hz hr hn hl
    cases n with
    | zero => omega
    | succ n =>
      show bOk (bX6_ruleOf_18 (lX6_ruleOf_18 (iv k) (iv days) n) (iv k) (iv days) z asd od om ow ca bo la (iv best) (iv most) (iv r)) _
      unfold bX6_ruleOf_18
      rw [show (3 : Int32) = iv 3 from rfl, ite_le (r32i (by omega) (by omega)) (r32n (by omega)), if_pos (by omega)]
      exact bOk_s ⟨rfl, hz⟩
  | succ e ih =>
    intro n r best most z asd od om ow ca bo la hz hr hn hl
    cases n with
    | zero => omega
    | succ n =>
      have hI := bsr_in hx.I (r := r) (by omega)
      have hId := hI.do (by omega) (k := k) hk hm.1 hm.2 hd
      have hv := brv_r hx.I (by omega) hk hm hd (r := r) (by omega)
      have hmn := hx.I.mn k hk
      show bOk (bX6_ruleOf_18 (lX6_ruleOf_18 (iv k) (iv days) n) (iv k) (iv days) z asd od om ow ca bo la (iv best) (iv most) (iv r)) _
      unfold bX6_ruleOf_18
      rw [if_neg (by rw [show (3 : Int32) = iv 3 from rfl, iv_le (by omega) (by omega) (by omega) (by omega)]; omega)]
      obtain ⟨a', e1, e2⟩ := f_putAside z asd
      rw [e1, bw_b1_s]
      refine bOk_b1 (hz.wS0 (r : Int)) fun z1 hz1 => ?_
      have hz1' : bRZ z1 (bsr s r) := hz1
      refine bOk_b7 (f_doNow hz1' hI.m (by omega) (by omega) (k := k) hk hd (by show 0 ≤ s.2.1 k 6 ∧ s.2.1 k 6 < s.2.1 k 5 ∧ s.2.1 k 5 ≤ 8; have := hm.2; omega) (btn_pl hI (k := k) hk hm.2)) fun z2 od2 om2 ow2 ca2 bo2 la2 hz2 => ?_
      have hz2' : bRZ z2 (bdo (bsr s r) k days) := hz2.1
      have hll := f_leastLeft hz2' hId.m (by omega)
      rw [show (bdo (bsr s r) k days).1 = s.1 from bdo_np] at hll
      have hll' : fX6_leastLeft z2 = some (iv (brv s k days r)) := hll
      rw [hll', bw_b1_s]
      obtain ⟨z3, e3, e4⟩ := f_putBack z2 a'
      rw [e3, bw_b1_s]
      have hz3 : bRZ z3 s := hz.congr fun j hj => by rw [e4 j hj, e2 j hj]
      unfold jX6_ruleOf_65 jX6_ruleOf_80
      rw [bw_let_s, bw_let_s, bw_let_s, bw_let_s, ite_le (r32i (by omega) (by omega)) hl, ite_le (r32i (by omega) (by omega)) hl, ite_le (r32i (by omega) (by omega)) hl, iv_succ]
      rw [bru_s]
      by_cases c : brv s k days r ≤ most
      · rw [if_pos c, if_pos c, if_pos c]
        exact ih n (r + 1) best most z3 a' od2 om2 ow2 ca2 bo2 la2 hz3 (by omega) (by omega) hl
      · rw [if_neg c, if_neg c, if_neg c]
        exact ih n (r + 1) (r : Int) (brv s k days r) z3 a' od2 om2 ow2 ca2 bo2 la2 hz3 (by omega) (by omega) (r32i (by omega) (by omega))
theorem f_ruleOf (hx : bDL s f b d z) {k : Nat} (hk : k < s.1) {days : Int} (hd : 0 ≤ days ∧ days ≤ 300) : bOk (fX6_ruleOf z asd od om ow ca bo la (iv k) (iv days)) fun q => ((bmd s k ∧ q.1 = iv (bru s k days 3 0 (-1) (-1))) ∨ (¬bmd s k ∧ q.1 = iv (-1))) ∧ bRZ q.2.1 s := by
  unfold fX6_ruleOf
  rw [z_may hx.Z hk hx.I, bw_b1_s, ite_10]
  by_cases cm : s.2.1 k 7 = 1 ∧ s.2.1 k 6 < s.2.1 k 5
  · rw [if_pos cm]
    rw [show (-1 : Int32) = iv (-1) from rfl, show (0 : Int32) = iv ((0 : Nat) : Int) from rfl]
    exact bOk_m (l_rule hx hk cm hd 3 bw_fu 0 (-1) (-1) z asd od om ow ca bo la hx.Z (by omega) (by unfold bw_fu; omega) (r32i (by omega) (by omega))) fun q hq => ⟨.inl ⟨cm, hq.1⟩, hq.2⟩
  · rw [if_neg cm]
    exact bOk_s ⟨.inr ⟨cm, rfl⟩, hx.Z⟩
theorem l_xrule (hx : bDL s f b d z) {k : Nat} (hk : k < s.1) (hm : bmd s k) {days : Int} (hd : 0 ≤ days ∧ days ≤ 300) : ∀ (e n r : Nat) (best most : Int) (t : Nat → Nat → Int32), r + e = 3 → e < n → r32 most → bOk (lX5_bestRuleFor_21 d (iv k) (iv days) n t (iv best) (iv most) (iv r)) fun q => q.1 = iv (bru s k days e r best most) := by
  have hf := hx.2.2.2.2.1
  have hfl := hx.fl
  have hb := hx.2.2.2.2.2
  intro e
  induction e with
  | zero =>
    intro n r best most t hr hn hl
    cases n with
    | zero => omega
    | succ n =>
      show bOk (bX5_bestRuleFor_21 (lX5_bestRuleFor_21 d (iv k) (iv days) n) d (iv k) (iv days) t (iv best) (iv most) (iv r)) _
      unfold bX5_bestRuleFor_21
      rw [show fX5_greatestValue 0 = some (iv 2) from f_greatest (i := 0) (by omega), bw_b1_s, ite_lt (r32i (by omega) (by omega)) (r32n (by omega)), if_pos (by omega)]
      exact bOk_s rfl
  | succ e ih =>
    intro n r best most t hr hn hl
    cases n with
    | zero => omega
    | succ n =>
      have hI := bsr_in hx.I (r := r) (by omega)
      have hId := hI.do (by omega) (k := k) hk hm.1 hm.2 hd
      have hv := brv_r hx.I (by omega) hk hm hd (r := r) (by omega)
      have hmn := hx.I.mn k hk
      show bOk (bX5_bestRuleFor_21 (lX5_bestRuleFor_21 d (iv k) (iv days) n) d (iv k) (iv days) t (iv best) (iv most) (iv r)) _
      unfold bX5_bestRuleFor_21
      rw [show fX5_greatestValue 0 = some (iv 2) from f_greatest (i := 0) (by omega), bw_b1_s, ite_lt (r32i (by omega) (by omega)) (r32n (by omega)), if_neg (by omega), bw_let_s]
      have hcp : bRD (bw_cpD t d) s := bRD.cp hx.1
      refine bOk_b2 (x_changeSetting (i := 0) hcp (by omega) (v := (r : Int))) fun r1 ts1 h1 => ?_
      rw [bw_let_s]
      have hX1 : bRX (bw_cpD t d 0) (bw_cpD t d 1) (bw_cpD t d 2) ts1 (bw_cpD t d 5 0) (bw_cpD t d 5 1) (bsr s r) := h1.2
      refine bOk_b6 (x_doNext (tq := bw_cpD t d 4) hX1 hI.m (by omega) (by omega) (k := k) hk hm.1 hd (by show 0 ≤ s.2.1 k 6 ∧ s.2.1 k 6 < s.2.1 k 5 ∧ s.2.1 k 5 ≤ 8; have := hm.2; omega) (btn_pl hI (k := k) hk hm.2)) fun r2 tp2 tk2 tl2 tq2 nl2 h2 => ?_
      rw [bw_let_s]
      have hX2 : bRX tp2 tk2 tl2 ts1 (bw_cpD t d 5 0) nl2 (bdo (bsr s r) k days) := h2.2
      generalize htt : va_up (va_up (va_up (va_up (va_up (va_up (bw_cpD t d) 3 ts1) 0 tp2) 1 tk2) 2 tl2) 4 tq2) 5 (upd (va_up (bw_cpD t d) 3 ts1 5) 1 nl2) = tt
      have hXt : bRX (tt 0) (tt 1) (tt 2) (tt 3) (tt 5 0) (tt 5 1) (bdo (bsr s r) k days) := by
        rw [← htt]
        exact hX2
      have hopen : ∃ j, j < (bdo (bsr s r) k days).1 ∧ (bdo (bsr s r) k days).2.1 j 7 = 1 := by
        refine ⟨k, by rw [bdo_np]; exact hk, ?_⟩
        rw [bdo_P, bdB_Pc _ (by omega) (by omega) (by omega) (by omega), if_neg (by omega)]
        exact hm.1
      have hll := x_least hXt hId.m (by omega) hopen
      rw [show (bdo (bsr s r) k days).1 = s.1 from bdo_np] at hll
      have hll' : fX0_leastDaysLeft (tt 0) (tt 5 0) = some (iv (brv s k days r)) := hll
      rw [hll', bw_b1_s]
      unfold jX5_bestRuleFor_85
      rw [bw_let_s, bw_let_s, ite_le (r32i (by omega) (by omega)) hl, iv_succ]
      rw [bru_s]
      by_cases c : brv s k days r ≤ most
      · rw [if_pos c, if_pos c]
        exact ih n (r + 1) best most tt (by omega) (by omega) hl
      · rw [if_neg c, if_neg c]
        exact ih n (r + 1) (r : Int) (brv s k days r) tt (by omega) (by omega) (r32i (by omega) (by omega))
theorem x_ruleFor (hx : bDL s f b d z) {k : Nat} (hk : k < s.1) {days : Int} (hd : 0 ≤ days ∧ days ≤ 300) : bOk (fX5_bestRuleFor d t (iv k) (iv days)) fun q => (bmd s k ∧ q.1 = iv (bru s k days 3 0 (-1) (-1))) ∨ (¬bmd s k ∧ q.1 = iv (-1)) := by
  unfold fX5_bestRuleFor
  rw [x_need hx.1 hk hx.I, bw_b1_s, ite_10]
  by_cases cm : s.2.1 k 7 = 1 ∧ s.2.1 k 6 < s.2.1 k 5
  · rw [if_pos cm]
    rw [show (-1 : Int32) = iv (-1) from rfl, show (0 : Int32) = iv ((0 : Nat) : Int) from rfl]
    exact bOk_m (l_xrule hx hk cm hd 3 bw_fu 0 (-1) (-1) t (by omega) (by unfold bw_fu; omega) (r32i (by omega) (by omega))) fun q hq => .inl ⟨cm, hq⟩
  · rw [if_neg cm]
    exact bOk_s (.inr ⟨cm, rfl⟩)
theorem op_bestRule (h : bDL s f b d z) (th p1 p2 : Int32) : bOk (fX5_bestRule d t p1 p2) fun c => bOk (fX6_bestRule z asd th od om ow ca bo la p1 p2) fun m => bAg bk12 c.1 c.2.1 m.1 m.2.2.2.1 ∧ bRZ m.2.1 s := by
  have hp1 := r32_of p1
  have hp2 := r32_of p2
  rw [← iv_of p1, ← iv_of p2]
  generalize p1.toInt = p at hp1 ⊢
  generalize p2.toInt = days at hp2 ⊢
  have a3 : fX6_in (iv days) 0 300 = some (if 0 ≤ days ∧ days ≤ 300 then 1 else 0) := f_in (l := 0) (m := 300) hp2 (r32i (by omega) (by omega)) (r32i (by omega) (by omega))
  unfold fX5_bestRule fX6_bestRule fX6_fails
  simp only [f_needProject h.1 hp1, f_isProject h.Z hp1, f_needDays hp2, a3, bw_b1_s, bw_b2_s, ite_10, ite_01]
  have bad : ∀ e : Nat, e = 1 ∨ e = 2 → bOk (some (e, (0 : Int32), t)) fun c => bOk (some ((0 : Int32), z, asd, bk12 e, od, om, ow, ca, bo, la)) fun m => bAg bk12 c.1 c.2.1 m.1 m.2.2.2.1 ∧ bRZ m.2.1 s := by
    intro e he
    refine bOk_s (bOk_s ⟨.inr ?_, h.Z⟩)
    rcases he with rfl | rfl <;> refine ⟨by simp, by simp, rfl, by simp [bk12]⟩
  by_cases c1 : 0 ≤ p ∧ p ≤ (s.1 : Int) - 1
  · obtain ⟨k, rfl, hk⟩ := isP c1
    rw [if_pos c1, if_pos c1, thn0]
    by_cases c2 : 0 ≤ days ∧ days ≤ 300
    · rw [if_pos c2, if_pos c2, thn0]
      refine bOk_b2 (x_ruleFor h hk c2) fun r1 t1 hx => bOk_s ?_
      refine bOk_b9 (f_ruleOf h hk c2) fun r2 z2 _ _ _ _ _ _ _ h2 => bOk_s ⟨?_, h2.2⟩
      rcases hx with ⟨q, e1⟩ | ⟨q, e1⟩ <;> rcases h2.1 with ⟨q2, e2⟩ | ⟨q2, e2⟩
      · exact .inl ⟨rfl, rfl, e1.trans e2.symm⟩
      · exact absurd q q2
      · exact absurd q2 q
      · exact .inl ⟨rfl, rfl, e1.trans e2.symm⟩
    · rw [if_neg c2, if_neg c2, thn1 _ _ _ (by omega)]
      exact bad 2 (by omega)
  · rw [if_neg c1, if_neg c1, thn1 _ _ _ (by omega)]
    exact bad 1 (by omega)
end
