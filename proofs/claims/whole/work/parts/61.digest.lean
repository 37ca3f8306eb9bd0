/- needs: 60.share -/
/-! ===== the digest ===== -/
def bmx (h : Int64) (v : Int) : Int64 := 31 * h + Int32.toInt64 (iv v)
/-- e values from i on are mixed in -/
def mxR (g : Nat → Int) : Nat → Nat → Int64 → Int64
  | 0, _, h => h
  | e + 1, i, h => mxR g e (i + 1) (bmx h (g i))
def mxT (s : bSt) (k : Nat) : Nat → Nat → Int64 → Int64
  | 0, _, h => h
  | e + 1, t, h => mxT s k e (t + 1) (mxR (fun c => s.2.1 k (bkc t c)) 6 0 h)
def bpm (s : bSt) (k : Nat) (h : Int64) : Int64 :=
  mxR (fun j => bow j k s.2.2.2.1) s.1 0 (bmx (mxR (fun c => if bmd s k then bifd s k 60 c else -1) 5 0 (bmx (mxR (blat s k) 3 0 (mxT s k (s.2.1 k 5).toNat 0 (mxR (bpr s k) 15 0 h))) (bbr s k))) (if bmd s k then bru s k 60 3 0 (-1) (-1) else -1))
def mxP (s : bSt) : Nat → Nat → Int64 → Int64
  | 0, _, h => h
  | e + 1, k, h => mxP s e (k + 1) (bpm s k h)
def mxL : List bLn → Int64 → Int64
  | [], h => h
  | e :: es, h => mxL es (mxR (blp e) 3 0 h)
def bdg (s : bSt) (hl : Nat) (C : List Int) : Int64 :=
  mxR (fun i => if h : i < C.length then C[i] else 0) C.length 0 (bmx (31 * bmx (mxL s.2.2.2.1 (mxP s s.1 0 (mxR s.2.2.2.2.1 3 0 (mxR (bcn s hl) 10 0 2473)))) (bwk s s.1 0 (-1) 0) + UInt64.toInt64 (bshr s)) C.length)
theorem x_mix (h : Int64) (v : Int) : fX5_mix h (Int32.toInt64 (iv v)) = some (bmx h v) := rfl
theorem f_mix (h : Int64) (v : Int) : fX6_mix h (Int32.toInt64 (iv v)) = some (bmx h v) := rfl
section
variable {s : bSt} {f b : Int} {d t : Nat → Nat → Int32} {z asd od : Nat → Int32} {om ow ca bo la : Int32}
/-! the class -/
theorem x_m15 (hx : bDL s f b d z) {k : Nat} (hk : k < s.1) : ∀ (e n i : Nat) (h : Int64), i + e = 15 → e < n → lX5_mixWhatIs_6 d (iv k) n h (iv i) = lX5_mixWhatIs_40 d (iv k) bw_fu (mxR (bpr s k) e i h) 0 := by
  intro e
  induction e with
  | zero =>
    intro n i h hi hn
    cases n with
    | zero => omega
    | succ n =>
      show bX5_mixWhatIs_6 (lX5_mixWhatIs_6 d (iv k) n) d (iv k) h (iv i) = _
      unfold bX5_mixWhatIs_6
      rw [show (14 : Int32) = iv 14 from rfl, ite_lt (r32i (by omega) (by omega)) (r32n (by omega)), if_pos (by omega)]
      rfl
  | succ e ih =>
    intro n i h hi hn
    cases n with
    | zero => omega
    | succ n =>
      show bX5_mixWhatIs_6 (lX5_mixWhatIs_6 d (iv k) n) d (iv k) h (iv i) = _
      unfold bX5_mixWhatIs_6
      rw [if_neg (by rw [show (14 : Int32) = iv 14 from rfl, iv_lt (by omega) (by omega) (by omega) (by omega)]; omega), x_projectPart hx.1 hx.I hx.fl hk (by omega), bw_b1_s, x_mix, bw_b1_s, bw_let_s, iv_succ]
      exact ih n (i + 1) _ (by omega) (by omega)
theorem x_m6 (hx : bDL s f b d z) {k u : Nat} (hk : k < s.1) (hu : u < 8) {k40 : Int64 → Int32 → Option (Int64 × bw_A2)} : ∀ (e n i : Nat) (h : Int64), i + e = 6 → e < n → lX5_mixWhatIs_58 k40 d (iv k) (iv u) n h (iv i) = k40 (mxR (fun c => s.2.1 k (bkc u c)) e i h) (iv ((u + 1 : Nat) : Int)) := by
  intro e
  induction e with
  | zero =>
    intro n i h hi hn
    cases n with
    | zero => omega
    | succ n =>
      show bX5_mixWhatIs_58 k40 (lX5_mixWhatIs_58 k40 d (iv k) (iv u) n) d (iv k) (iv u) h (iv i) = _
      unfold bX5_mixWhatIs_58
      rw [show (5 : Int32) = iv 5 from rfl, ite_lt (r32i (by omega) (by omega)) (r32n (by omega)), if_pos (by omega), bw_let_s, iv_succ]
      rfl
  | succ e ih =>
    intro n i h hi hn
    cases n with
    | zero => omega
    | succ n =>
      show bX5_mixWhatIs_58 k40 (lX5_mixWhatIs_58 k40 d (iv k) (iv u) n) d (iv k) (iv u) h (iv i) = _
      unfold bX5_mixWhatIs_58
      rw [if_neg (by rw [show (5 : Int32) = iv 5 from rfl, iv_lt (by omega) (by omega) (by omega) (by omega)]; omega), x_taskPart hx.1 hk hu (by omega), bw_b1_s, x_mix, bw_b1_s, bw_let_s, iv_succ]
      exact ih n (i + 1) _ (by omega) (by omega)
theorem x_mT (hx : bDL s f b d z) {k : Nat} (hk : k < s.1) : ∀ (e n u : Nat) (h : Int64), (u + e : Int) = s.2.1 k 5 → e < n → lX5_mixWhatIs_40 d (iv k) n h (iv u) = lX5_mixWhatIs_99 (iv k) bw_fu d (mxT s k e u h) 0 := by
  have hmn := hx.I.mn k hk
  have hp : fX0_projectPart (d 0) (d 3) (iv k) 7 = some (iv (s.2.1 k 5)) := x_part hx.1 hk 7 (by omega) (by omega)
  intro e
  induction e with
  | zero =>
    intro n u h hi hn
    cases n with
    | zero => omega
    | succ n =>
      show bX5_mixWhatIs_40 (lX5_mixWhatIs_40 d (iv k) n) d (iv k) h (iv u) = _
      unfold bX5_mixWhatIs_40
      rw [hp, bw_b1_s, ite_le (r32i (by omega) (by omega)) (r32n (by omega)), if_pos (by omega)]
      rfl
  | succ e ih =>
    intro n u h hi hn
    cases n with
    | zero => omega
    | succ n =>
      show bX5_mixWhatIs_40 (lX5_mixWhatIs_40 d (iv k) n) d (iv k) h (iv u) = _
      unfold bX5_mixWhatIs_40
      rw [hp, bw_b1_s, ite_le (r32i (by omega) (by omega)) (r32n (by omega)), if_neg (by omega)]
      have := x_m6 hx hk (u := u) (by omega) (k40 := lX5_mixWhatIs_40 d (iv k) n) 6 bw_fu 0 h (by omega) (by unfold bw_fu; omega)
      rw [show (0 : Int32) = iv ((0 : Nat) : Int) from rfl, this]
      exact ih n (u + 1) _ (by omega) (by omega)
theorem x_m3 (hb : b ≤ 200000000) (hi : bIn s f b) (hf : f ≤ 310000) {k : Nat} (hk : k < s.1) : ∀ (e n i : Nat) (h : Int64) (d : Nat → Nat → Int32), bRD d s → i + e = 3 → e < n → bOk (lX5_mixWhatIs_99 (iv k) n d h (iv i)) fun r => r.1 = mxR (blat s k) e i h ∧ bRD r.2 s := by
  intro e
  induction e with
  | zero =>
    intro n i h d hd hi3 hn
    cases n with
    | zero => omega
    | succ n =>
      show bOk (bX5_mixWhatIs_99 (lX5_mixWhatIs_99 (iv k) n) (iv k) d h (iv i)) _
      unfold bX5_mixWhatIs_99
      rw [show (3 : Int32) = iv 3 from rfl, ite_le (r32i (by omega) (by omega)) (r32n (by omega)), if_pos (by omega)]
      exact bOk_s ⟨rfl, hd⟩
  | succ e ih =>
    intro n i h d hd hi3 hn
    cases n with
    | zero => omega
    | succ n =>
      show bOk (bX5_mixWhatIs_99 (lX5_mixWhatIs_99 (iv k) n) (iv k) d h (iv i)) _
      unfold bX5_mixWhatIs_99
      rw [if_neg (by rw [show (3 : Int32) = iv 3 from rfl, iv_le (by omega) (by omega) (by omega) (by omega)]; omega)]
      refine bOk_b2 (x_lenderAt hd hi hf hb hk (i := i) (by omega)) fun r1 tq1 h1 => ?_
      have h1' : r1 = iv (blat s k i) := h1
      rw [h1', bw_let_s, x_mix, bw_b1_s, bw_let_s, iv_succ]
      exact ih n (i + 1) _ _ (bRD.q hd tq1) (by omega) (by omega)
theorem x_mixIs (hx : bDL s f b d z) {k : Nat} (hk : k < s.1) (h : Int64) : bOk (fX5_mixWhatIs d h (iv k)) fun r => r.1 = mxR (blat s k) 3 0 (mxT s k (s.2.1 k 5).toNat 0 (mxR (bpr s k) 15 0 h)) ∧ bRD r.2 s := by
  have hmn := hx.I.mn k hk
  unfold fX5_mixWhatIs
  have e1 := x_m15 hx hk 15 bw_fu 0 h (by omega) (by unfold bw_fu; omega)
  have e2 := x_mT hx hk (s.2.1 k 5).toNat bw_fu 0 (mxR (bpr s k) 15 0 h) (by omega) (by unfold bw_fu; omega)
  rw [show (0 : Int32) = iv ((0 : Nat) : Int) from rfl, e1, show (0 : Int32) = iv ((0 : Nat) : Int) from rfl, e2, show (0 : Int32) = iv ((0 : Nat) : Int) from rfl]
  exact x_m3 hx.2.2.2.2.2 hx.I hx.fl hk 3 bw_fu 0 _ d hx.1 (by omega) (by unfold bw_fu; omega)
theorem x_mow (hx : bDL s f b d z) {k : Nat} (hk : k < s.1) {t : Nat → Nat → Int32} : ∀ (e n j : Nat) (h : Int64), j + e = s.1 → e < n → lX5_mixWhatWouldBe_83 d t (iv k) n h (iv j) = some (mxR (fun j => bow j k s.2.2.2.1) e j h, t) := by
  have hX := hx.X
  have h6 := hX.n6
  intro e
  induction e with
  | zero =>
    intro n j h hj hn
    cases n with
    | zero => omega
    | succ n =>
      show bX5_mixWhatWouldBe_83 (lX5_mixWhatWouldBe_83 d t (iv k) n) d t (iv k) h (iv j) = _
      unfold bX5_mixWhatWouldBe_83 fX0_projects
      rw [bw_b1_s, hX.n, ite_le (r32n (by omega)) (r32n (by omega)), if_pos (by omega)]
      rfl
  | succ e ih =>
    intro n j h hj hn
    cases n with
    | zero => omega
    | succ n =>
      show bX5_mixWhatWouldBe_83 (lX5_mixWhatWouldBe_83 d t (iv k) n) d t (iv k) h (iv j) = _
      unfold bX5_mixWhatWouldBe_83 fX0_projects
      rw [bw_b1_s, if_neg (by rw [hX.n, iv_le (by omega) (by omega) (by omega) (by omega)]; omega), x_daysOwed (a := j) (b := k) (by omega) (by omega) hx.I.ab6 hX.x.l, bw_b1_s, x_mix, bw_b1_s, bw_let_s, iv_succ]
      exact ih n (j + 1) _ (by omega) (by omega)
theorem x_m5 (hx : bDL s f b d z) {k : Nat} (hk : k < s.1) {t : Nat → Nat → Int32} {x6 : Int32} (ht : (bmd s k ∧ x6 = 1 ∧ bRD t (bdo s k 60)) ∨ (¬bmd s k ∧ x6 = 0)) : ∀ (e n i : Nat) (h : Int64), i + e = 5 → e < n → bOk (lX5_mixWhatWouldBe_27 d t (iv k) x6 n h (iv i)) fun r => r.1 = mxR (fun j => bow j k s.2.2.2.1) s.1 0 (bmx (mxR (fun c => if bmd s k then bifd s k 60 c else -1) e i h) (if bmd s k then bru s k 60 3 0 (-1) (-1) else -1)) := by
  have h6 := hx.X.n6
  intro e
  induction e with
  | zero =>
    intro n i h hi hn
    cases n with
    | zero => omega
    | succ n =>
      show bOk (bX5_mixWhatWouldBe_27 (lX5_mixWhatWouldBe_27 d t (iv k) x6 n) d t (iv k) x6 h (iv i)) _
      unfold bX5_mixWhatWouldBe_27
      rw [show (4 : Int32) = iv 4 from rfl, ite_lt (r32i (by omega) (by omega)) (r32n (by omega)), if_pos (by omega), show (60 : Int32) = iv 60 from rfl]
      refine bOk_b2 (x_ruleFor hx hk (days := 60) (by omega)) fun r1 t1 h1 => ?_
      have h1' : r1 = iv (if bmd s k then bru s k 60 3 0 (-1) (-1) else -1) := by
        rcases h1 with ⟨q1, q2⟩ | ⟨q1, q2⟩
        · rw [if_pos q1]; exact q2
        · rw [if_neg q1]; exact q2
      rw [h1', x_mix, bw_b1_s, show (0 : Int32) = iv ((0 : Nat) : Int) from rfl, x_mow hx hk s.1 bw_fu 0 _ (by omega) (by unfold bw_fu; omega)]
      exact bOk_s rfl
  | succ e ih =>
    intro n i h hi hn
    cases n with
    | zero => omega
    | succ n =>
      have i1 := fun h' => ih n (i + 1) h' (by omega) (by omega)
      show bOk (bX5_mixWhatWouldBe_27 (lX5_mixWhatWouldBe_27 d t (iv k) x6 n) d t (iv k) x6 h (iv i)) _
      unfold bX5_mixWhatWouldBe_27 jX5_mixWhatWouldBe_54
      rw [if_neg (by rw [show (4 : Int32) = iv 4 from rfl, iv_lt (by omega) (by omega) (by omega) (by omega)]; omega)]
      simp only [bw_let_s]
      rw [iv_succ]
      rcases ht with ⟨q1, q2, q3⟩ | ⟨q1, q2⟩
      · rw [if_neg (by rw [q2]; decide), x_result hx.I hk q1 q3 (c := i) (by omega), bw_b1_s, x_mix, bw_b1_s]
        have := i1 (bmx h (bifd s k 60 i))
        have e1 : mxR (fun c => if bmd s k then bifd s k 60 c else -1) (e + 1) i h = mxR (fun c => if bmd s k then bifd s k 60 c else -1) e (i + 1) (bmx h (bifd s k 60 i)) := by
          show mxR _ e (i + 1) (bmx h (if bmd s k then bifd s k 60 i else -1)) = _
          rw [if_pos q1]
        rw [e1]
        exact this
      · rw [if_pos q2, show (-1 : Int64) = Int32.toInt64 (iv (-1)) from rfl, x_mix, bw_b1_s]
        have := i1 (bmx h (-1))
        have e1 : mxR (fun c => if bmd s k then bifd s k 60 c else -1) (e + 1) i h = mxR (fun c => if bmd s k then bifd s k 60 c else -1) e (i + 1) (bmx h (-1)) := by
          show mxR _ e (i + 1) (bmx h (if bmd s k then bifd s k 60 i else -1)) = _
          rw [if_neg q1]
        rw [e1]
        exact this
theorem x_mixWould (hx : bDL s f b d z) {k : Nat} (hk : k < s.1) (h : Int64) (t : Nat → Nat → Int32) : bOk (fX5_mixWhatWouldBe d t h (iv k)) fun r => r.1 = mxR (fun j => bow j k s.2.2.2.1) s.1 0 (bmx (mxR (fun c => if bmd s k then bifd s k 60 c else -1) 5 0 (bmx h (bbr s k))) (if bmd s k then bru s k 60 3 0 (-1) (-1) else -1)) := by
  unfold fX5_mixWhatWouldBe
  rw [x_bears hx hk, bw_b1_s, x_mix, bw_b1_s, show (60 : Int32) = iv 60 from rfl]
  refine bOk_b2 (x_try (t := t) hx hk (days := 60) (by omega)) fun r1 t1 h1 => ?_
  rw [show (0 : Int32) = iv ((0 : Nat) : Int) from rfl]
  exact x_m5 hx hk h1 5 bw_fu 0 _ (by omega) (by unfold bw_fu; omega)
end
