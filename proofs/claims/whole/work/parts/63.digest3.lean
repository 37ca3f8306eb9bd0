/- needs: 62.digest2 -/
/-! ===== the digest: the reference ===== -/
section
variable {s : bSt} {f b : Int} {d : Nat → Nat → Int32} {buf : Nat → Int32} {bm : Int32} {C : List Int} {sm th : Int32} {hl : Nat}
theorem f_m148 {z asd od : Nat → Int32} {om ow ca bo la : Int32} (hx : bDL s f b d z) {k : Nat} (hk : k < s.1) : ∀ (e n j : Nat) (h : Int64), j + e = s.1 → e < n → lX6_mixProject_148 z asd od om ow ca bo la (iv k) n h (iv j) = some (z, asd, od, om, ow, ca, bo, la, mxR (fun j => bow j k s.2.2.2.1) e j h) := by
  have h6 := hx.Z.n6
  intro e
  induction e with
  | zero =>
    intro n j h hj hn
    cases n with
    | zero => omega
    | succ n =>
      show bX6_mixProject_148 (lX6_mixProject_148 z asd od om ow ca bo la (iv k) n) z asd od om ow ca bo la (iv k) h (iv j) = _
      unfold bX6_mixProject_148
      rw [hx.Z.r0, bw_b1_s, ite_le (r32n (by omega)) (r32n (by omega)), if_pos (by omega)]
      rfl
  | succ e ih =>
    intro n j h hj hn
    cases n with
    | zero => omega
    | succ n =>
      show bX6_mixProject_148 (lX6_mixProject_148 z asd od om ow ca bo la (iv k) n) z asd od om ow ca bo la (iv k) h (iv j) = _
      unfold bX6_mixProject_148
      rw [hx.Z.r0, bw_b1_s, ite_le (r32n (by omega)) (r32n (by omega)), if_neg (by omega), f_owedOf hx.Z hx.I.m.w.lok (a := j) (b := k) (by omega) (by omega), bw_b1_s, f_mix, bw_b1_s, bw_let_s, iv_succ]
      exact ih n (j + 1) _ (by omega) (by omega)
theorem f_m110 {k : Nat} (hk : k < s.1) : ∀ (e n i : Nat) (h : Int64) (z asd od : Nat → Int32) (om ow ca bo la : Int32), bDL s f b d z → i + e = 5 → e < n → bOk (lX6_mixProject_110 (iv k) n z asd od om ow ca bo la h (iv i)) fun r => bRZ r.1 s ∧ r.2.2.2.2.2.2.2.2 = mxR (fun j => bow j k s.2.2.2.1) s.1 0 (bmx (mxR (fun c => if bmd s k then bifd s k 60 c else -1) e i h) (if bmd s k then bru s k 60 3 0 (-1) (-1) else -1)) := by
  intro e
  induction e with
  | zero =>
    intro n i h z asd od om ow ca bo la hx hi hn
    have h6 := hx.Z.n6
    cases n with
    | zero => omega
    | succ n =>
      show bOk (bX6_mixProject_110 (lX6_mixProject_110 (iv k) n) (iv k) z asd od om ow ca bo la h (iv i)) _
      unfold bX6_mixProject_110
      rw [show (5 : Int32) = iv 5 from rfl, ite_le (r32i (by omega) (by omega)) (r32n (by omega)), if_pos (by omega), show (60 : Int32) = iv 60 from rfl]
      refine bOk_b9 (f_ruleOf hx hk (days := 60) (by omega)) fun r1 z1 a1 o1 m1 w1 c1 b1 l1 h1 => ?_
      obtain ⟨q1, q2⟩ := h1
      dsimp only at q1 q2
      have h1' : r1 = iv (if bmd s k then bru s k 60 3 0 (-1) (-1) else -1) := by
        rcases q1 with ⟨x1, x2⟩ | ⟨x1, x2⟩
        · rw [if_pos x1]; exact x2
        · rw [if_neg x1]; exact x2
      have hx1 : bDL s f b d z1 := ⟨hx.1, q2, hx.2.2⟩
      rw [h1', f_mix, bw_b1_s, show (0 : Int32) = iv ((0 : Nat) : Int) from rfl, f_m148 hx1 hk s.1 bw_fu 0 _ (by omega) (by unfold bw_fu; omega)]
      exact bOk_s ⟨q2, rfl⟩
  | succ e ih =>
    intro n i h z asd od om ow ca bo la hx hi hn
    cases n with
    | zero => omega
    | succ n =>
      show bOk (bX6_mixProject_110 (lX6_mixProject_110 (iv k) n) (iv k) z asd od om ow ca bo la h (iv i)) _
      unfold bX6_mixProject_110
      rw [if_neg (by rw [show (5 : Int32) = iv 5 from rfl, iv_le (by omega) (by omega) (by omega) (by omega)]; omega), show (60 : Int32) = iv 60 from rfl]
      refine bOk_b9 (f_doneOf hx hk (days := 60) (by omega) (c := i) (by omega)) fun r1 z1 a1 o1 m1 w1 c1 b1 l1 h1 => ?_
      obtain ⟨q1, q2⟩ := h1
      dsimp only at q1 q2
      have h1' : r1 = iv (if bmd s k then bifd s k 60 i else -1) := by
        rcases q1 with ⟨x1, x2⟩ | ⟨x1, x2⟩
        · rw [if_pos x1]; exact x2
        · rw [if_neg x1]; exact x2
      have hx1 : bDL s f b d z1 := ⟨hx.1, q2, hx.2.2⟩
      rw [h1', f_mix, bw_b1_s, bw_let_s, iv_succ]
      exact ih n (i + 1) _ z1 a1 o1 m1 w1 c1 b1 l1 hx1 (by omega) (by omega)
theorem f_m76 {z asd : Nat → Int32} {ow ca bo la : Int32} (hx : bDL s f b d z) {k : Nat} (hk : k < s.1) : ∀ (e n i : Nat) (h : Int64) (od : Nat → Int32) (om : Int32), i + e = 3 → e < n → bOk (lX6_mixProject_76 z asd ow ca bo la (iv k) n od om h (iv i)) fun r => bRZ r.1 s ∧ r.2.2.2.2.2.2.2.2 = mxR (fun j => bow j k s.2.2.2.1) s.1 0 (bmx (mxR (fun c => if bmd s k then bifd s k 60 c else -1) 5 0 (bmx (mxR (blat s k) e i h) (bbr s k))) (if bmd s k then bru s k 60 3 0 (-1) (-1) else -1)) := by
  intro e
  induction e with
  | zero =>
    intro n i h od om hi hn
    cases n with
    | zero => omega
    | succ n =>
      show bOk (bX6_mixProject_76 (lX6_mixProject_76 z asd ow ca bo la (iv k) n) z asd ow ca bo la (iv k) od om h (iv i)) _
      unfold bX6_mixProject_76
      rw [show (3 : Int32) = iv 3 from rfl, ite_le (r32i (by omega) (by omega)) (r32n (by omega)), if_pos (by omega)]
      refine bOk_b9 (f_bornBy hx hk) fun r1 z1 a1 o1 m1 w1 c1 b1 l1 h1 => ?_
      obtain ⟨q1, q2⟩ := h1
      dsimp only at q1 q2
      have hx1 : bDL s f b d z1 := ⟨hx.1, q2, hx.2.2⟩
      rw [q1, f_mix, bw_b1_s, show (0 : Int32) = iv ((0 : Nat) : Int) from rfl]
      exact f_m110 hk 5 bw_fu 0 _ z1 a1 o1 m1 w1 c1 b1 l1 hx1 (by omega) (by unfold bw_fu; omega)
  | succ e ih =>
    intro n i h od om hi hn
    cases n with
    | zero => omega
    | succ n =>
      show bOk (bX6_mixProject_76 (lX6_mixProject_76 z asd ow ca bo la (iv k) n) z asd ow ca bo la (iv k) od om h (iv i)) _
      unfold bX6_mixProject_76
      rw [if_neg (by rw [show (3 : Int32) = iv 3 from rfl, iv_le (by omega) (by omega) (by omega) (by omega)]; omega)]
      refine bOk_b3 (f_lenderOf hx.Z hx.I hx.fl hx.2.2.2.2.2 hk (i := i) (by omega)) fun r1 o1 m1 h1 => ?_
      have h1' : r1 = iv (blat s k i) := h1
      rw [h1', f_mix, bw_b1_s, bw_let_s, iv_succ]
      exact ih n (i + 1) _ o1 m1 (by omega) (by omega)
theorem f_m44 {z asd od : Nat → Int32} {om ow ca bo la : Int32} (hx : bDL s f b d z) {k u : Nat} (hk : k < s.1) (hu : u < 8) {k27 : Int64 → Int32 → Option (bw_A1 × bw_A1 × bw_A1 × Int32 × Int32 × Int32 × Int32 × Int32 × Int64)} : ∀ (e n i : Nat) (h : Int64), i + e = 6 → e < n → lX6_mixProject_44 k27 z asd od om ow ca bo la (iv k) (iv u) n h (iv i) = k27 (mxR (fun c => s.2.1 k (bkc u c)) e i h) (iv ((u + 1 : Nat) : Int)) := by
  intro e
  induction e with
  | zero =>
    intro n i h hi hn
    cases n with
    | zero => omega
    | succ n =>
      show bX6_mixProject_44 k27 (lX6_mixProject_44 k27 z asd od om ow ca bo la (iv k) (iv u) n) z asd od om ow ca bo la (iv k) (iv u) h (iv i) = _
      unfold bX6_mixProject_44
      rw [show (6 : Int32) = iv 6 from rfl, ite_le (r32i (by omega) (by omega)) (r32n (by omega)), if_pos (by omega), bw_let_s, iv_succ]
      rfl
  | succ e ih =>
    intro n i h hi hn
    cases n with
    | zero => omega
    | succ n =>
      show bX6_mixProject_44 k27 (lX6_mixProject_44 k27 z asd od om ow ca bo la (iv k) (iv u) n) z asd od om ow ca bo la (iv k) (iv u) h (iv i) = _
      unfold bX6_mixProject_44
      rw [if_neg (by rw [show (6 : Int32) = iv 6 from rfl, iv_le (by omega) (by omega) (by omega) (by omega)]; omega), f_taskOf hx.Z hk hu (by omega), bw_b1_s, f_mix, bw_b1_s, bw_let_s, iv_succ]
      exact ih n (i + 1) _ (by omega) (by omega)
theorem f_m27 {z asd od : Nat → Int32} {om ow ca bo la : Int32} (hx : bDL s f b d z) {k : Nat} (hk : k < s.1) : ∀ (e n u : Nat) (h : Int64), (u + e : Int) = s.2.1 k 5 → e < n → lX6_mixProject_27 z asd od om ow ca bo la (iv k) n h (iv u) = lX6_mixProject_76 z asd ow ca bo la (iv k) bw_fu od om (mxT s k e u h) 0 := by
  have hmn := hx.I.mn k hk
  intro e
  induction e with
  | zero =>
    intro n u h hi hn
    cases n with
    | zero => omega
    | succ n =>
      show bX6_mixProject_27 (lX6_mixProject_27 z asd od om ow ca bo la (iv k) n) z asd od om ow ca bo la (iv k) h (iv u) = _
      unfold bX6_mixProject_27
      rw [f_at, bw_b1_s, hx.Z.rP hk 5 (by omega) (by omega), bw_b1_s, ite_le (r32i (by omega) (by omega)) (r32n (by omega)), if_pos (by omega)]
      rfl
  | succ e ih =>
    intro n u h hi hn
    cases n with
    | zero => omega
    | succ n =>
      show bX6_mixProject_27 (lX6_mixProject_27 z asd od om ow ca bo la (iv k) n) z asd od om ow ca bo la (iv k) h (iv u) = _
      unfold bX6_mixProject_27
      rw [f_at, bw_b1_s, hx.Z.rP hk 5 (by omega) (by omega), bw_b1_s, ite_le (r32i (by omega) (by omega)) (r32n (by omega)), if_neg (by omega)]
      have := f_m44 (asd := asd) (od := od) (om := om) (ow := ow) (ca := ca) (bo := bo) (la := la) hx hk (u := u) (by omega) (k27 := lX6_mixProject_27 z asd od om ow ca bo la (iv k) n) 6 bw_fu 0 h (by omega) (by unfold bw_fu; omega)
      rw [show (0 : Int32) = iv ((0 : Nat) : Int) from rfl, this]
      exact ih n (u + 1) _ (by omega) (by omega)
theorem f_m2 {z asd od : Nat → Int32} {om ow ca bo la : Int32} (hx : bDL s f b d z) {k : Nat} (hk : k < s.1) : ∀ (e n i : Nat) (h : Int64), i + e = 15 → e < n → lX6_mixProject_2 z asd od om ow ca bo la (iv k) n h (iv i) = lX6_mixProject_27 z asd od om ow ca bo la (iv k) bw_fu (mxR (bpr s k) e i h) 0 := by
  intro e
  induction e with
  | zero =>
    intro n i h hi hn
    cases n with
    | zero => omega
    | succ n =>
      show bX6_mixProject_2 (lX6_mixProject_2 z asd od om ow ca bo la (iv k) n) z asd od om ow ca bo la (iv k) h (iv i) = _
      unfold bX6_mixProject_2
      rw [show (15 : Int32) = iv 15 from rfl, ite_le (r32i (by omega) (by omega)) (r32n (by omega)), if_pos (by omega)]
      rfl
  | succ e ih =>
    intro n i h hi hn
    cases n with
    | zero => omega
    | succ n =>
      show bX6_mixProject_2 (lX6_mixProject_2 z asd od om ow ca bo la (iv k) n) z asd od om ow ca bo la (iv k) h (iv i) = _
      unfold bX6_mixProject_2
      rw [if_neg (by rw [show (15 : Int32) = iv 15 from rfl, iv_le (by omega) (by omega) (by omega) (by omega)]; omega), f_projectOf hx.Z hx.I hx.fl hk (by omega), bw_b1_s, f_mix, bw_b1_s, bw_let_s, iv_succ]
      exact ih n (i + 1) _ (by omega) (by omega)
theorem f_mixProject {z asd od : Nat → Int32} {om ow ca bo la : Int32} (hx : bDL s f b d z) {k : Nat} (hk : k < s.1) (h : Int64) : bOk (fX6_mixProject z asd od om ow ca bo la h (iv k)) fun r => bRZ r.1 s ∧ r.2.2.2.2.2.2.2.2 = bpm s k h := by
  have hmn := hx.I.mn k hk
  unfold fX6_mixProject
  rw [show (0 : Int32) = iv ((0 : Nat) : Int) from rfl, f_m2 hx hk 15 bw_fu 0 h (by omega) (by unfold bw_fu; omega), show (0 : Int32) = iv ((0 : Nat) : Int) from rfl, f_m27 hx hk (s.2.1 k 5).toNat bw_fu 0 _ (by omega) (by unfold bw_fu; omega), show (0 : Int32) = iv ((0 : Nat) : Int) from rfl]
  exact f_m76 hx hk 3 bw_fu 0 _ od om (by omega) (by unfold bw_fu; omega)
theorem f_d151 (hc : bTX buf bm C) {z asd od : Nat → Int32} {om ow ca bo la : Int32} : ∀ (e n i : Nat) (h : Int64), i + e = C.length → e < n → lX6_digest_151 z asd sm buf bm th od om ow ca bo la n h (iv i) = some (mxR (fun i => if h : i < C.length then C[i] else 0) e i h, z, asd, th, od, om, ow, ca, bo, la, mxR (fun i => if h : i < C.length then C[i] else 0) e i h) := by
  have h60 := hc.2.1
  intro e
  induction e with
  | zero =>
    intro n i h hi hn
    cases n with
    | zero => omega
    | succ n =>
      show bX6_digest_151 (lX6_digest_151 z asd sm buf bm th od om ow ca bo la n) z asd sm buf bm th od om ow ca bo la h (iv i) = _
      unfold bX6_digest_151
      rw [if_pos (by rw [hc.1, iv_le (by omega) (by omega) (by omega) (by omega)]; omega)]
      rfl
  | succ e ih =>
    intro n i h hi hn
    cases n with
    | zero => omega
    | succ n =>
      have hi' : i < C.length := by omega
      show bX6_digest_151 (lX6_digest_151 z asd sm buf bm th od om ow ca bo la n) z asd sm buf bm th od om ow ca bo la h (iv i) = _
      have hrd : bw_rd 60 buf (iv i) = some (iv C[i]) := by
        rw [iv_rd (by omega) (by omega) (by omega)]
        exact congrArg some (hc.2.2.1 i hi')
      unfold bX6_digest_151
      rw [if_neg (by rw [hc.1, iv_le (by omega) (by omega) (by omega) (by omega)]; omega), hrd, bw_b1_s, f_mix, bw_b1_s, bw_let_s, iv_succ, ih n (i + 1) _ (by omega) (by omega)]
      have e1 : mxR (fun i => if h : i < C.length then C[i] else 0) (e + 1) i h = mxR (fun i => if h : i < C.length then C[i] else 0) e (i + 1) (bmx h C[i]) := by
        show mxR _ e (i + 1) (bmx h (if h : i < C.length then C[i] else 0)) = _
        rw [dif_pos hi']
      rw [e1]
theorem f_d87 (hc : bTX buf bm C) {z asd od : Nat → Int32} {om ow ca bo la : Int32} (hx : bDL s f b d z) : ∀ (suf pre : List bLn) (n : Nat) (h : Int64), s.2.2.2.1 = pre ++ suf → 3 * suf.length + 1 ≤ n → bOk (lX6_digest_87 z asd sm buf bm th od om ow ca bo la n h (iv ((3 * pre.length : Nat) : Int))) fun r => r.1 = mxR (fun i => if h : i < C.length then C[i] else 0) C.length 0 (bmx (31 * bmx (mxL suf h) (bwk s s.1 0 (-1) 0) + UInt64.toInt64 (bshr s)) C.length) ∧ bRZ r.2.1 s ∧ r.2.2.2.1 = th := by
  have h30 := hx.Z.l30
  have h60 := hc.2.1
  intro suf
  induction suf with
  | nil =>
    intro pre n h hL hn
    cases n with
    | zero => omega
    | succ n =>
      have hlen : s.2.2.2.1.length = pre.length := by rw [hL]; simp
      show bOk (bX6_digest_87 (lX6_digest_87 z asd sm buf bm th od om ow ca bo la n) z asd sm buf bm th od om ow ca bo la h (iv ((3 * pre.length : Nat) : Int))) _
      unfold bX6_digest_87
      rw [hx.Z.r1, bw_b1_s, show (3 : Int32) = iv 3 from rfl, iv_mul, ite_le (r32i (by omega) (by omega)) (r32n (by omega)), if_pos (by omega)]
      refine bOk_b9 (f_weakestOf hx) fun r1 z1 a1 o1 m1 w1 c1 b1 l1 h1 => ?_
      obtain ⟨q1, q2⟩ := h1
      dsimp only at q1 q2
      have hx1 : bDL s f b d z1 := ⟨hx.1, q2, hx.2.2⟩
      rw [q1, f_mix, bw_b1_s, f_share hx1, bw_b1_s, (bshr_bits hx1).2.1, bw_b1_s]
      have e1 : fX6_mix (bmx h (bwk s s.1 0 (-1) 0)) (UInt64.toInt64 (bshr s)) = some (31 * bmx h (bwk s s.1 0 (-1) 0) + UInt64.toInt64 (bshr s)) := rfl
      rw [e1, bw_b1_s, show Int32.toInt64 bm = Int32.toInt64 (iv C.length) by rw [hc.1], f_mix, bw_b1_s, show (0 : Int32) = iv ((0 : Nat) : Int) from rfl, f_d151 hc C.length bw_fu 0 _ (by omega) (by unfold bw_fu; omega)]
      exact bOk_s ⟨rfl, q2, rfl⟩
  | cons e es ih =>
    intro pre n h hL hn
    rw [List.length_cons] at hn
    have hlen : s.2.2.2.1.length = pre.length + (es.length + 1) := by rw [hL]; simp
    have hg : s.2.2.2.1[pre.length]'(by omega) = e := by simp [hL]
    have step : ∀ (n c : Nat) (h : Int64), c < 3 → lX6_digest_87 z asd sm buf bm th od om ow ca bo la (n + 1) h (iv ((3 * pre.length + c : Nat) : Int)) = lX6_digest_87 z asd sm buf bm th od om ow ca bo la n (bmx h (blp e c)) (iv ((3 * pre.length + c + 1 : Nat) : Int)) := by
      intro n c h hc3
      show bX6_digest_87 (lX6_digest_87 z asd sm buf bm th od om ow ca bo la n) z asd sm buf bm th od om ow ca bo la h (iv ((3 * pre.length + c : Nat) : Int)) = _
      have hrd : bw_rd 444 z (354 + iv ((3 * pre.length + c : Nat) : Int)) = some (iv (blp e c)) := by
        have := f_loanPart hx.Z (i := pre.length) (c := c) (by omega) hc3
        rw [hg] at this
        rw [← this]
        congr 1
        simp only [iv_cast, iv_mul, iv_add]
        congr 1
        omega
      unfold bX6_digest_87
      rw [hx.Z.r1, bw_b1_s, if_neg (by rw [show (3 : Int32) = iv 3 from rfl, iv_mul, iv_le (by omega) (by omega) (by omega) (by omega)]; omega), hrd, bw_b1_s, f_mix, bw_b1_s, bw_let_s, iv_succ]
    obtain ⟨n', rfl⟩ : ∃ n', n = n' + 1 + 1 + 1 := ⟨n - 3, by omega⟩
    rw [show (3 * pre.length : Nat) = 3 * pre.length + 0 by omega, step _ 0 h (by omega), step _ 1 _ (by omega), step _ 2 _ (by omega)]
    have := ih (pre ++ [e]) n' (bmx (bmx (bmx h (blp e 0)) (blp e 1)) (blp e 2)) (by rw [hL]; simp) (by omega)
    rw [len_snoc, show 3 * (pre.length + 1) = 3 * pre.length + 2 + 1 by omega] at this
    exact this
theorem f_d64 (hc : bTX buf bm C) : ∀ (e n k : Nat) (h : Int64) (z asd od : Nat → Int32) (om ow ca bo la : Int32), bDL s f b d z → k + e = s.1 → e < n → bOk (lX6_digest_64 sm buf bm th n z asd od om ow ca bo la h (iv k)) fun r => r.1 = mxR (fun i => if h : i < C.length then C[i] else 0) C.length 0 (bmx (31 * bmx (mxL s.2.2.2.1 (mxP s e k h)) (bwk s s.1 0 (-1) 0) + UInt64.toInt64 (bshr s)) C.length) ∧ bRZ r.2.1 s ∧ r.2.2.2.1 = th := by
  intro e
  induction e with
  | zero =>
    intro n k h z asd od om ow ca bo la hx hk hn
    have h6 := hx.Z.n6
    have h30 := hx.Z.l30
    cases n with
    | zero => omega
    | succ n =>
      show bOk (bX6_digest_64 (lX6_digest_64 sm buf bm th n) sm buf bm th z asd od om ow ca bo la h (iv k)) _
      unfold bX6_digest_64
      rw [hx.Z.r0, bw_b1_s, ite_le (r32n (by omega)) (r32n (by omega)), if_pos (by omega), show (0 : Int32) = iv ((3 * ([] : List bLn).length : Nat) : Int) from rfl]
      exact f_d87 hc hx s.2.2.2.1 [] bw_fu h rfl (by unfold bw_fu; omega)
  | succ e ih =>
    intro n k h z asd od om ow ca bo la hx hk hn
    have h6 := hx.Z.n6
    cases n with
    | zero => omega
    | succ n =>
      show bOk (bX6_digest_64 (lX6_digest_64 sm buf bm th n) sm buf bm th z asd od om ow ca bo la h (iv k)) _
      unfold bX6_digest_64
      rw [hx.Z.r0, bw_b1_s, ite_le (r32n (by omega)) (r32n (by omega)), if_neg (by omega)]
      refine bOk_b9 (f_mixProject hx (k := k) (by omega) h) fun z1 a1 o1 m1 w1 c1 b1 l1 h1 hm => ?_
      obtain ⟨q1, q2⟩ := hm
      dsimp only at q1 q2
      rw [q2, bw_let_s, iv_succ]
      exact ih n (k + 1) _ z1 a1 o1 m1 w1 c1 b1 l1 ⟨hx.1, q1, hx.2.2⟩ (by omega) (by omega)
theorem f_d38 {z asd od : Nat → Int32} {om ow ca bo la : Int32} (hx : bDL s f b d z) : ∀ (e n i : Nat) (h : Int64), i + e = 3 → e < n → lX6_digest_38 z asd sm buf bm th od om ow ca bo la n h (iv i) = lX6_digest_64 sm buf bm th bw_fu z asd od om ow ca bo la (mxR s.2.2.2.2.1 e i h) 0 := by
  intro e
  induction e with
  | zero =>
    intro n i h hi hn
    cases n with
    | zero => omega
    | succ n =>
      show bX6_digest_38 (lX6_digest_38 z asd sm buf bm th od om ow ca bo la n) z asd sm buf bm th od om ow ca bo la h (iv i) = _
      unfold bX6_digest_38
      rw [show (3 : Int32) = iv 3 from rfl, ite_le (r32i (by omega) (by omega)) (r32n (by omega)), if_pos (by omega)]
      rfl
  | succ e ih =>
    intro n i h hi hn
    cases n with
    | zero => omega
    | succ n =>
      show bX6_digest_38 (lX6_digest_38 z asd sm buf bm th od om ow ca bo la n) z asd sm buf bm th od om ow ca bo la h (iv i) = _
      unfold bX6_digest_38
      rw [if_neg (by rw [show (3 : Int32) = iv 3 from rfl, iv_le (by omega) (by omega) (by omega) (by omega)]; omega), hx.Z.rS (by omega), bw_b1_s, f_mix, bw_b1_s, bw_let_s, iv_succ]
      exact ih n (i + 1) _ (by omega) (by omega)
theorem f_d14 {z asd od : Nat → Int32} {om ow ca bo la : Int32} (hx : bDL s f b d z) (em : sm = iv hl) : ∀ (e n i : Nat) (h : Int64), i + e = 10 → e < n → lX6_digest_14 z asd sm buf bm th od om ow ca bo la n h (iv i) = lX6_digest_38 z asd sm buf bm th od om ow ca bo la bw_fu (mxR (bcn s hl) e i h) 0 := by
  intro e
  induction e with
  | zero =>
    intro n i h hi hn
    cases n with
    | zero => omega
    | succ n =>
      show bX6_digest_14 (lX6_digest_14 z asd sm buf bm th od om ow ca bo la n) z asd sm buf bm th od om ow ca bo la h (iv i) = _
      unfold bX6_digest_14
      rw [show (10 : Int32) = iv 10 from rfl, ite_le (r32i (by omega) (by omega)) (r32n (by omega)), if_pos (by omega)]
      rfl
  | succ e ih =>
    intro n i h hi hn
    cases n with
    | zero => omega
    | succ n =>
      show bX6_digest_14 (lX6_digest_14 z asd sm buf bm th od om ow ca bo la n) z asd sm buf bm th od om ow ca bo la h (iv i) = _
      unfold bX6_digest_14
      rw [if_neg (by rw [show (10 : Int32) = iv 10 from rfl, iv_le (by omega) (by omega) (by omega) (by omega)]; omega), f_counted hx.Z hx.I hx.fl sm em (by omega), bw_b1_s, f_mix, bw_b1_s, bw_let_s, iv_succ]
      exact ih n (i + 1) _ (by omega) (by omega)
theorem f_digest (hc : bTX buf bm C) {z asd od : Nat → Int32} {om ow ca bo la : Int32} (hx : bDL s f b d z) (em : sm = iv hl) (hh : Int64) : bOk (fX6_digest z asd sm buf bm th od om ow ca bo la hh) fun r => r.1 = bdg s hl C ∧ bRZ r.2.1 s ∧ r.2.2.2.1 = 0 := by
  have h6 := hx.Z.n6
  unfold fX6_digest
  rw [show (0 : Int32) = iv ((0 : Nat) : Int) from rfl, f_d14 hx em 10 bw_fu 0 _ (by omega) (by unfold bw_fu; omega), show (0 : Int32) = iv ((0 : Nat) : Int) from rfl, f_d38 hx 3 bw_fu 0 _ (by omega) (by unfold bw_fu; omega), show (0 : Int32) = iv ((0 : Nat) : Int) from rfl]
  exact f_d64 hc s.1 bw_fu 0 _ z asd od om ow ca bo la hx (by omega) (by unfold bw_fu; omega)
end
