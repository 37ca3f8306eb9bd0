/- needs: 61.digest -/
/-! ===== the digest: the class, the whole ===== -/
section
variable {s : bSt} {f b : Int} {z : Nat → Int32} {cs : Nat → Int32} {ln : Int32} {C : List Int} {hs : Int32} {hl : Nat}
theorem x_d182 (hc : bTX cs ln C) {d t : Nat → Nat → Int32} : ∀ (e n i : Nat) (h : Int64), i + e = C.length → e < n → lX5_digest_182 d t hs cs ln n h (iv i) = some (mxR (fun i => if h : i < C.length then C[i] else 0) e i h, d, t) := by
  have h60 := hc.2.1
  intro e
  induction e with
  | zero =>
    intro n i h hi hn
    cases n with
    | zero => omega
    | succ n =>
      show bX5_digest_182 (lX5_digest_182 d t hs cs ln n) d t hs cs ln h (iv i) = _
      unfold bX5_digest_182 fX4_length
      rw [bw_b1_s, hc.1, ite_le (r32n (by omega)) (r32n (by omega)), if_pos (by omega)]
      rfl
  | succ e ih =>
    intro n i h hi hn
    cases n with
    | zero => omega
    | succ n =>
      have hi' : i < C.length := by omega
      show bX5_digest_182 (lX5_digest_182 d t hs cs ln n) d t hs cs ln h (iv i) = _
      unfold bX5_digest_182 fX4_length
      rw [bw_b1_s, if_neg (by rw [hc.1, iv_le (by omega) (by omega) (by omega) (by omega)]; omega), x_codeAt hc hi', bw_b1_s, x_mix, bw_b1_s, bw_let_s, iv_succ, ih n (i + 1) _ (by omega) (by omega)]
      have e1 : mxR (fun i => if h : i < C.length then C[i] else 0) (e + 1) i h = mxR (fun i => if h : i < C.length then C[i] else 0) e (i + 1) (bmx h C[i]) := by
        show mxR _ e (i + 1) (bmx h (if h : i < C.length then C[i] else 0)) = _
        rw [dif_pos hi']
      rw [e1]
theorem x_d108 {d : Nat → Nat → Int32} {L : List bLn} (hr : bRL (d 2) (d 5 1) L) {t : Nat → Nat → Int32} {k94 : Int64 → Int32 → Option (Int64 × bw_A2 × bw_A2)} {i : Nat} (hi : i < L.length) : ∀ (e n c : Nat) (h : Int64), c + e = 3 → e < n → lX5_digest_108 k94 d t hs cs ln (iv i) n h (iv c) = k94 (mxR (blp L[i]) e c h) (iv ((i + 1 : Nat) : Int)) := by
  intro e
  induction e with
  | zero =>
    intro n c h hc hn
    cases n with
    | zero => omega
    | succ n =>
      show bX5_digest_108 k94 (lX5_digest_108 k94 d t hs cs ln (iv i) n) d t hs cs ln (iv i) h (iv c) = _
      unfold bX5_digest_108
      rw [show (2 : Int32) = iv 2 from rfl, ite_lt (r32i (by omega) (by omega)) (r32n (by omega)), if_pos (by omega), bw_let_s, iv_succ]
      rfl
  | succ e ih =>
    intro n c h hc hn
    cases n with
    | zero => omega
    | succ n =>
      show bX5_digest_108 k94 (lX5_digest_108 k94 d t hs cs ln (iv i) n) d t hs cs ln (iv i) h (iv c) = _
      unfold bX5_digest_108
      rw [if_neg (by rw [show (2 : Int32) = iv 2 from rfl, iv_lt (by omega) (by omega) (by omega) (by omega)]; omega), x_loanPart hr hi (by omega), bw_b1_s, x_mix, bw_b1_s, bw_let_s, iv_succ]
      exact ih n (c + 1) _ (by omega) (by omega)
theorem x_d94 (hc : bTX cs ln C) {d t : Nat → Nat → Int32} (hx : bDL s f b d z) : ∀ (suf pre : List bLn) (n : Nat) (h : Int64), s.2.2.2.1 = pre ++ suf → suf.length < n → lX5_digest_94 d t hs cs ln n h (iv pre.length) = some (mxR (fun i => if h : i < C.length then C[i] else 0) C.length 0 (bmx (31 * bmx (mxL suf h) (bwk s s.1 0 (-1) 0) + UInt64.toInt64 (bshr s)) C.length), d, t) := by
  have hX := hx.X
  have h30 := hX.x.l.l30
  have h60 := hc.2.1
  intro suf
  induction suf with
  | nil =>
    intro pre n h hL hn
    cases n with
    | zero => omega
    | succ n =>
      have hlen : s.2.2.2.1.length = pre.length := by rw [hL]; simp
      show bX5_digest_94 (lX5_digest_94 d t hs cs ln n) d t hs cs ln h (iv pre.length) = _
      unfold bX5_digest_94 fX0_loans fX4_length
      rw [bw_b1_s, hX.x.l.n, ite_le (r32n (by omega)) (r32n (by omega)), if_pos (by omega)]
      have hw := x_weakest hx
      rw [hX.x.l.n] at hw
      rw [hw, bw_b1_s, x_mix, bw_b1_s, x_share hx, bw_b1_s, (bshr_bits hx).1, bw_b1_s]
      show (bw_b1 (some (31 * bmx h (bwk s s.1 0 (-1) 0) + UInt64.toInt64 (bshr s))) fun r163 => bw_b1 (some ln) fun r172 => bw_b1 (fX5_mix r163 (Int32.toInt64 r172)) fun r176 => lX5_digest_182 d t hs cs ln bw_fu r176 0) = _
      rw [bw_b1_s, bw_b1_s, show Int32.toInt64 ln = Int32.toInt64 (iv C.length) by rw [hc.1], x_mix, bw_b1_s, show (0 : Int32) = iv ((0 : Nat) : Int) from rfl, x_d182 hc C.length bw_fu 0 _ (by omega) (by unfold bw_fu; omega)]
      rfl
  | cons e es ih =>
    intro pre n h hL hn
    cases n with
    | zero => simp at hn
    | succ n =>
      rw [List.length_cons] at hn
      have hlen : s.2.2.2.1.length = pre.length + (es.length + 1) := by rw [hL]; simp
      have hg : s.2.2.2.1[pre.length]'(by omega) = e := by simp [hL]
      show bX5_digest_94 (lX5_digest_94 d t hs cs ln n) d t hs cs ln h (iv pre.length) = _
      unfold bX5_digest_94 fX0_loans fX4_length
      rw [bw_b1_s, if_neg (by rw [hX.x.l.n, iv_le (by omega) (by omega) (by omega) (by omega)]; omega), show (0 : Int32) = iv ((0 : Nat) : Int) from rfl, x_d108 (hs := hs) (cs := cs) (ln := ln) hX.x.l (t := t) (k94 := lX5_digest_94 d t hs cs ln n) (i := pre.length) (by omega) 3 bw_fu 0 h (by omega) (by unfold bw_fu; omega), hg]
      have := ih (pre ++ [e]) n (mxR (blp e) 3 0 h) (by rw [hL]; simp) (by omega)
      rw [len_snoc] at this
      exact this
theorem x_d61 (hc : bTX cs ln C) : ∀ (e n k : Nat) (h : Int64) (d t : Nat → Nat → Int32), bDL s f b d z → k + e = s.1 → e < n → bOk (lX5_digest_61 hs cs ln n d t h (iv k)) fun r => r.1 = mxR (fun i => if h : i < C.length then C[i] else 0) C.length 0 (bmx (31 * bmx (mxL s.2.2.2.1 (mxP s e k h)) (bwk s s.1 0 (-1) 0) + UInt64.toInt64 (bshr s)) C.length) ∧ bRD r.2.1 s := by
  intro e
  induction e with
  | zero =>
    intro n k h d t hx hk hn
    have h6 := hx.X.n6
    cases n with
    | zero => omega
    | succ n =>
      show bOk (bX5_digest_61 (lX5_digest_61 hs cs ln n) hs cs ln d t h (iv k)) _
      unfold bX5_digest_61 fX0_projects
      rw [bw_b1_s, if_pos (by rw [hx.X.n, iv_le (by omega) (by omega) (by omega) (by omega)]; omega)]
      have := x_d94 (hs := hs) hc (d := d) (t := t) hx s.2.2.2.1 [] bw_fu h rfl (by have := hx.X.x.l.l30; unfold bw_fu; omega)
      rw [show (0 : Int32) = iv (([] : List bLn).length : Int) from rfl, this]
      exact bOk_s ⟨rfl, hx.1⟩
  | succ e ih =>
    intro n k h d t hx hk hn
    have h6 := hx.X.n6
    cases n with
    | zero => omega
    | succ n =>
      show bOk (bX5_digest_61 (lX5_digest_61 hs cs ln n) hs cs ln d t h (iv k)) _
      unfold bX5_digest_61 fX0_projects
      rw [bw_b1_s, if_neg (by rw [hx.X.n, iv_le (by omega) (by omega) (by omega) (by omega)]; omega)]
      refine bOk_b2 (x_mixIs hx (k := k) (by omega) h) fun h1 d1 hm => ?_
      obtain ⟨q1, q2⟩ := hm
      dsimp only at q1 q2
      have hx1 : bDL s f b d1 z := ⟨q2, hx.2⟩
      refine bOk_b2 (x_mixWould hx1 (k := k) (by omega) h1 t) fun h2 t2 hm2 => ?_
      have hm2' : h2 = bpm s k h := by
        rw [q1] at hm2
        exact hm2
      rw [bw_let_s, iv_succ, hm2']
      exact ih n (k + 1) _ d1 t2 hx1 (by omega) (by omega)
theorem x_d31 {d t : Nat → Nat → Int32} (hx : bDL s f b d z) : ∀ (e n i : Nat) (h : Int64), i + e = 3 → e < n → lX5_digest_31 d t hs cs ln n h (iv i) = lX5_digest_61 hs cs ln bw_fu d t (mxR s.2.2.2.2.1 e i h) 0 := by
  intro e
  induction e with
  | zero =>
    intro n i h hi hn
    cases n with
    | zero => omega
    | succ n =>
      show bX5_digest_31 (lX5_digest_31 d t hs cs ln n) d t hs cs ln h (iv i) = _
      unfold bX5_digest_31
      rw [show (3 : Int32) = iv 3 from rfl, ite_le (r32i (by omega) (by omega)) (r32n (by omega)), if_pos (by omega)]
      rfl
  | succ e ih =>
    intro n i h hi hn
    cases n with
    | zero => omega
    | succ n =>
      show bX5_digest_31 (lX5_digest_31 d t hs cs ln n) d t hs cs ln h (iv i) = _
      unfold bX5_digest_31
      rw [if_neg (by rw [show (3 : Int32) = iv 3 from rfl, iv_le (by omega) (by omega) (by omega) (by omega)]; omega), x_valueOf hx.1 (by omega), bw_b1_s, x_mix, bw_b1_s, bw_let_s, iv_succ]
      exact ih n (i + 1) _ (by omega) (by omega)
theorem x_d6 {d t : Nat → Nat → Int32} (hx : bDL s f b d z) (eh : hs = iv hl) : ∀ (e n i : Nat) (h : Int64), i + e = 10 → e < n → lX5_digest_6 d t hs cs ln n h (iv i) = lX5_digest_31 d t hs cs ln bw_fu (mxR (bcn s hl) e i h) 0 := by
  intro e
  induction e with
  | zero =>
    intro n i h hi hn
    cases n with
    | zero => omega
    | succ n =>
      show bX5_digest_6 (lX5_digest_6 d t hs cs ln n) d t hs cs ln h (iv i) = _
      unfold bX5_digest_6
      rw [show (9 : Int32) = iv 9 from rfl, ite_lt (r32i (by omega) (by omega)) (r32n (by omega)), if_pos (by omega)]
      rfl
  | succ e ih =>
    intro n i h hi hn
    cases n with
    | zero => omega
    | succ n =>
      show bX5_digest_6 (lX5_digest_6 d t hs cs ln n) d t hs cs ln h (iv i) = _
      unfold bX5_digest_6
      rw [if_neg (by rw [show (9 : Int32) = iv 9 from rfl, iv_lt (by omega) (by omega) (by omega) (by omega)]; omega), x_numberOf hx.1 hx.I hs eh (by omega), bw_b1_s, x_mix, bw_b1_s, bw_let_s, iv_succ]
      exact ih n (i + 1) _ (by omega) (by omega)
theorem x_digest (hc : bTX cs ln C) {d t : Nat → Nat → Int32} (hx : bDL s f b d z) (eh : hs = iv hl) : bOk (fX5_digest d t hs cs ln) fun r => r.1 = bdg s hl C ∧ bRD r.2.1 s := by
  have h6 := hx.X.n6
  unfold fX5_digest
  rw [show (0 : Int32) = iv ((0 : Nat) : Int) from rfl, x_d6 hx eh 10 bw_fu 0 _ (by omega) (by unfold bw_fu; omega), show (0 : Int32) = iv ((0 : Nat) : Int) from rfl, x_d31 hx 3 bw_fu 0 _ (by omega) (by unfold bw_fu; omega), show (0 : Int32) = iv ((0 : Nat) : Int) from rfl]
  exact x_d61 hc s.1 bw_fu 0 _ d t hx (by omega) (by unfold bw_fu; omega)
end
