/- needs: 10_base 11_kit 12_refw 13_refs 14_refl 15_pay 16_order 17_charge 18_donow 19_donow2 20_tab -/
/-! ===== the reference: opened, planned, written off, copied ===== -/
theorem bRZ.congr {z z' : Nat → Int32} {s : bSt} (h : bRZ z s) (e : ∀ j, j < 444 → z' j = z j) : bRZ z' s := by
  have n6 := h.n6
  have l30 := h.l30
  refine ⟨h.n6, h.l30, ?_, ?_, ?_, fun i hi => ?_, fun k' hk' => ?_, fun k' c' hk' hc' hc2' => ?_, fun i hi => ?_, fun i hi => ?_, fun i hi => ?_⟩
  · rw [e _ (by omega)]; exact h.z0
  · rw [e _ (by omega)]; exact h.z1
  · rw [e _ (by omega)]; exact h.z2
  · rw [e _ (by omega)]; exact h.zS i hi
  · rw [e _ (by omega)]; exact h.zF k' hk'
  · rw [e _ (by omega)]; exact h.zP k' c' hk' hc' hc2'
  · rw [e _ (by omega)]; exact h.zA i hi
  · rw [e _ (by omega)]; exact h.zB i hi
  · rw [e _ (by omega)]; exact h.zD i hi
/-- a project is opened -/
def bopn (s : bSt) (r b : Int) : bSt := (s.1 + 1, up2 (up2 (up2 s.2.1 s.1 0 r) s.1 1 b) s.1 7 1, up1 s.2.2.1 s.1 b, s.2.2.2.1, s.2.2.2.2.1, s.2.2.2.2.2)
/-- the loop that wipes a row -/
theorem l_open {r b : Int} {p : Nat} (hp : p ≤ 5) : ∀ (d n : Nat) (z : Nat → Int32) (i : Nat), i + d = 58 → d < n → lX6_openNow_13 (iv r) (iv b) (iv ((6 + 58 * p : Nat) : Int)) n z (iv i) = bX6_openNow_13 (fun _ _ => none) (iv r) (iv b) (iv ((6 + 58 * p : Nat) : Int)) (fun j => if 6 + 58 * p + i ≤ j ∧ j < 6 + 58 * p + 58 then 0 else z j) (iv 58) := by
  intro d
  induction d with
  | zero =>
    intro n z i hi hn
    cases n with
    | zero => omega
    | succ n =>
      have ei : i = 58 := by omega
      subst ei
      show bX6_openNow_13 (lX6_openNow_13 (iv r) (iv b) (iv ((6 + 58 * p : Nat) : Int)) n) (iv r) (iv b) (iv ((6 + 58 * p : Nat) : Int)) z (iv 58) = _
      have ez : (fun j => if 6 + 58 * p + 58 ≤ j ∧ j < 6 + 58 * p + 58 then 0 else z j) = z := by
        funext j
        rw [if_neg (by omega)]
      rw [ez]
      unfold bX6_openNow_13
      rw [if_pos (by decide), if_pos (by decide)]
  | succ d ih =>
    intro n z i hi hn
    cases n with
    | zero => omega
    | succ n =>
      have := ih n (upd z (6 + 58 * p + i) 0) (i + 1) (by omega) (by omega)
      show bX6_openNow_13 (lX6_openNow_13 (iv r) (iv b) (iv ((6 + 58 * p : Nat) : Int)) n) (iv r) (iv b) (iv ((6 + 58 * p : Nat) : Int)) z (iv i) = _
      rw [show bX6_openNow_13 (lX6_openNow_13 (iv r) (iv b) (iv ((6 + 58 * p : Nat) : Int)) n) (iv r) (iv b) (iv ((6 + 58 * p : Nat) : Int)) z (iv i) = lX6_openNow_13 (iv r) (iv b) (iv ((6 + 58 * p : Nat) : Int)) n (upd z (6 + 58 * p + i) 0) (iv ((i + 1 : Nat) : Int)) by
        rw [show bX6_openNow_13 (lX6_openNow_13 (iv r) (iv b) (iv ((6 + 58 * p : Nat) : Int)) n) (iv r) (iv b) (iv ((6 + 58 * p : Nat) : Int)) z (iv i) = (bw_b1 (bw_wr 444 z (iv ((6 + 58 * p : Nat) : Int) + iv i) 0) fun z_29 => bw_let (iv i + 1 : Int32) fun x4_30 => lX6_openNow_13 (iv r) (iv b) (iv ((6 + 58 * p : Nat) : Int)) n z_29 x4_30) by
          unfold bX6_openNow_13
          rw [if_neg]
          rw [show (58 : Int32) = iv 58 from rfl, iv_le (by omega) (by omega) (by omega) (by omega)]
          omega]
        rw [iv_add, bZ_wr (i := 6 + 58 * p + i) (by omega) (by omega), bw_b1_s, bw_let_s, iv_succ]]
      rw [this]
      congr 1
      funext j
      by_cases c : j = 6 + 58 * p + i
      · subst c; rw [if_neg (by omega), if_pos (by omega), upd_self]
      · rw [upd_ne _ _ c]
        by_cases c2 : 6 + 58 * p + (i + 1) ≤ j ∧ j < 6 + 58 * p + 58
        · rw [if_pos c2, if_pos (by omega)]
        · rw [if_neg c2, if_neg (by omega)]
section
variable {z : Nat → Int32} {s : bSt}
theorem f_openNow (h : bRZ z s) (h5 : s.1 ≤ 5) (hz : s.2.2.1 s.1 = 0 ∧ ∀ c, s.2.1 s.1 c = 0) {r b : Int} : bOk (fX6_openNow z (iv r) (iv b)) fun z' => bRZ z' (bopn s r b) := by
  have l30 := h.l30
  unfold fX6_openNow
  rw [h.r0, bw_b1_s, f_at, bw_b1_s]
  have e1 : (6 + 58 * iv s.1 : Int32) = iv ((6 + 58 * s.1 : Nat) : Int) := by
    simp only [iv_cast, iv_mul, iv_add]
    congr 1
  rw [e1, show (0 : Int32) = iv ((0 : Nat) : Int) from rfl, l_open h5 58 bw_fu z 0 (by omega) (by unfold bw_fu; omega)]
  generalize hzz : (fun j => if 6 + 58 * s.1 + 0 ≤ j ∧ j < 6 + 58 * s.1 + 58 then (0 : Int32) else z j) = zz
  have hzv : ∀ j, zz j = if 6 + 58 * s.1 ≤ j ∧ j < 6 + 58 * s.1 + 58 then (0 : Int32) else z j := by intro j; rw [← hzz, Nat.add_zero]
  have h1 : bRZ (upd zz 0 (iv ((s.1 + 1 : Nat) : Int))) (s.1 + 1, s.2.1, s.2.2.1, s.2.2.2.1, s.2.2.2.2.1, s.2.2.2.2.2) := by
    refine ⟨by dsimp only; omega, h.l30, ?_, ?_, ?_, fun i hi => ?_, fun k' hk' => ?_, fun k' c' hk' hc' hc2' => ?_, fun i hi => ?_, fun i hi => ?_, fun i hi => ?_⟩ <;> dsimp only at *
    · rw [upd_self]
    · rw [upd_ne _ _ (by omega), hzv, if_neg (by omega)]; exact h.z1
    · rw [upd_ne _ _ (by omega), hzv, if_neg (by omega)]; exact h.z2
    · rw [upd_ne _ _ (by omega), hzv, if_neg (by omega)]; exact h.zS i hi
    · rw [upd_ne _ _ (by omega), hzv]
      by_cases e : k' = s.1
      · subst e; rw [if_pos (by omega), hz.1]; rfl
      · rw [if_neg (by omega)]; exact h.zF k' (by omega)
    · rw [upd_ne _ _ (by omega), hzv]
      by_cases e : k' = s.1
      · subst e; rw [if_pos (by omega), hz.2]; rfl
      · rw [if_neg (by omega)]; exact h.zP k' c' (by omega) hc' hc2'
    · rw [upd_ne _ _ (by omega), hzv, if_neg (by omega)]; exact h.zA i hi
    · rw [upd_ne _ _ (by omega), hzv, if_neg (by omega)]; exact h.zB i hi
    · rw [upd_ne _ _ (by omega), hzv, if_neg (by omega)]; exact h.zD i hi
  have h2 := h1.uP (k := s.1) (c := 0) (by dsimp only; omega) (by omega) (by omega) r
  have h3 := h2.uP (k := s.1) (c := 1) (by dsimp only; omega) (by omega) (by omega) b
  have h4 := h3.uF (k := s.1) (by dsimp only; omega) b
  have h5' := h4.uP (k := s.1) (c := 7) (by dsimp only; omega) (by omega) (by omega) 1
  have h6 : bRZ (upd (upd (upd (upd (upd zz (6 + 58 * s.1) (iv r)) (6 + 58 * s.1 + 1) (iv b)) (6 + 58 * s.1 + 2) (iv b)) (6 + 58 * s.1 + 7) (iv 1)) 0 (iv ((s.1 + 1 : Nat) : Int))) (bopn s r b) := by
    refine bRZ.congr (s := bopn s r b) h5' fun j hj => ?_
    by_cases e0 : j = 0
    · subst e0
      rw [upd_self, upd_ne _ _ (by omega), upd_ne _ _ (by omega), upd_ne _ _ (by omega), upd_ne _ _ (by omega), upd_self]
    · rw [upd_ne _ _ e0]
      unfold upd
      simp [e0]
  unfold bX6_openNow_13
  rw [if_pos (by decide)]
  rw [bZ_wr (i := 6 + 58 * s.1) (by omega) (by omega), bw_b1_s]
  rw [show (1 : Int32) = iv 1 from rfl, iv_add, bZ_wr (i := 6 + 58 * s.1 + 1) (by omega) (by omega), bw_b1_s]
  rw [show (2 : Int32) = iv 2 from rfl, iv_add, bZ_wr (i := 6 + 58 * s.1 + 2) (by omega) (by omega), bw_b1_s]
  rw [show (7 : Int32) = iv 7 from rfl, iv_add, bZ_wr (i := 6 + 58 * s.1 + 7) (by omega) (by omega), bw_b1_s]
  rw [show ∀ z' : Nat → Int32, bw_rd 444 z' 0 = some (z' 0) from fun z' => bZ_rd (i := 0) rfl (by omega), bw_b1_s]
  rw [upd_ne _ _ (by omega), upd_ne _ _ (by omega), upd_ne _ _ (by omega), upd_ne _ _ (by omega), hzv, if_neg (by omega), h.z0, iv_add]
  rw [show ∀ (z' : Nat → Int32) (v : Int32), bw_wr 444 z' 0 v = some (upd z' 0 v) from fun z' v => bZ_wr (i := 0) rfl (by omega), bw_b1_s]
  exact bOk_s h6
/-- a task is planned -/
def bpln (s : bSt) (k : Nat) (days : Int) : bSt := (s.1, up2 (up2 (up2 s.2.1 k (10 + (s.2.1 k 5).toNat) days) k (18 + (s.2.1 k 5).toNat) (-1)) k 5 (s.2.1 k 5 + 1), s.2.2.1, s.2.2.2.1, s.2.2.2.2.1, s.2.2.2.2.2)
theorem f_planNow (h : bRZ z s) {k : Nat} (hk : k < s.1) (h5 : 0 ≤ s.2.1 k 5 ∧ s.2.1 k 5 < 8) {days : Int} : bOk (fX6_planNow z (iv k) (iv days)) fun z' => bRZ z' (bpln s k days) := by
  have e5 : s.2.1 k 5 = (s.2.1 k 5).toNat := by omega
  unfold fX6_planNow
  rw [f_at, bw_b1_s, h.rP hk 5 (by omega) (by omega), bw_b1_s, e5]
  refine bOk_b1 (h.wT hk 10 (t := (s.2.1 k 5).toNat) (by omega) (by omega) days) fun z1 h1 => ?_
  rw [h1.rP hk 5 (by omega) (by omega), bw_b1_s]
  dsimp only
  rw [up2_c _ _ _ _ (by omega), e5, show (-1 : Int32) = iv (-1) from rfl]
  refine bOk_b1 (h1.wT hk 18 (t := (s.2.1 k 5).toNat) (by omega) (by omega) (-1)) fun z2 h2 => ?_
  rw [h2.rP hk 5 (by omega) (by omega), bw_b1_s]
  dsimp only
  rw [up2_c _ _ _ _ (by omega), up2_c _ _ _ _ (by omega), show (1 : Int32) = iv 1 from rfl, iv_add]
  refine bOk_b1 (h2.wP hk 5 (by omega) (by omega) _) fun z3 h3 => bOk_s h3
/-- the loans of a project are written off -/
def bwo (k : Nat) : List bLn → (Nat → Nat → Int) → List bLn × (Nat → Nat → Int) × Int
  | [], P => ([], P, 0)
  | e :: es, P => if e.1 = k ∨ e.2.1 = k then ((bwo k es (up2 (up2 P e.1 9 (P e.1 9 + e.2.2)) e.2.1 8 (up2 P e.1 9 (P e.1 9 + e.2.2) e.2.1 8 + e.2.2))).1, (bwo k es (up2 (up2 P e.1 9 (P e.1 9 + e.2.2)) e.2.1 8 (up2 P e.1 9 (P e.1 9 + e.2.2) e.2.1 8 + e.2.2))).2.1, e.2.2 + (bwo k es (up2 (up2 P e.1 9 (P e.1 9 + e.2.2)) e.2.1 8 (up2 P e.1 9 (P e.1 9 + e.2.2) e.2.1 8 + e.2.2))).2.2) else (e :: (bwo k es P).1, (bwo k es P).2)
theorem bwo_c (k : Nat) (e : bLn) (es : List bLn) (P : Nat → Nat → Int) : bwo k (e :: es) P = if e.1 = k ∨ e.2.1 = k then ((bwo k es (up2 (up2 P e.1 9 (P e.1 9 + e.2.2)) e.2.1 8 (up2 P e.1 9 (P e.1 9 + e.2.2) e.2.1 8 + e.2.2))).1, (bwo k es (up2 (up2 P e.1 9 (P e.1 9 + e.2.2)) e.2.1 8 (up2 P e.1 9 (P e.1 9 + e.2.2) e.2.1 8 + e.2.2))).2.1, e.2.2 + (bwo k es (up2 (up2 P e.1 9 (P e.1 9 + e.2.2)) e.2.1 8 (up2 P e.1 9 (P e.1 9 + e.2.2) e.2.1 8 + e.2.2))).2.2) else (e :: (bwo k es P).1, (bwo k es P).2) := rfl
theorem l_writeOff {k : Nat} (hk : k < 6) : ∀ (suf pre : List bLn) (n : Nat) (x : Int) (z : Nat → Int32) (s : bSt), bRZ z s → s.2.2.2.1 = pre ++ suf → suf.length < n → (∀ e ∈ suf, e.1 < s.1 ∧ e.2.1 < s.1) → bOk (lX6_writeOff_4 (iv k) n z (iv x) (iv pre.length)) fun r => r.1 = iv (x + (bwo k suf s.2.1).2.2) ∧ bRZ r.2 (s.1, (bwo k suf s.2.1).2.1, s.2.2.1, pre ++ (bwo k suf s.2.1).1, s.2.2.2.2.1, s.2.2.2.2.2) := by
  intro suf
  induction suf with
  | nil =>
    intro pre n x z s h hL hn hd
    cases n with
    | zero => omega
    | succ n =>
      have h30 := h.l30' hL
      show bOk (bX6_writeOff_4 (lX6_writeOff_4 (iv k) n) (iv k) z (iv x) (iv pre.length)) _
      unfold bX6_writeOff_4
      rw [h.r1x hL, bw_b1_s, ite_le (r32n (by omega)) (r32n (by omega)), if_pos (by simp)]
      refine bOk_s ⟨by show iv x = iv (x + 0); rw [Int.add_zero], ?_⟩
      show bRZ z (s.1, s.2.1, s.2.2.1, pre ++ [], s.2.2.2.2.1, s.2.2.2.2.2)
      rw [← hL]
      exact h
  | cons e es ih =>
    intro pre n x z s h hL hn hd
    cases n with
    | zero => simp at hn
    | succ n =>
      have h6 := h.n6
      have h30 := h.l30' hL
      have hd0 := hd e List.mem_cons_self
      have hdt : ∀ e ∈ es, e.1 < s.1 ∧ e.2.1 < s.1 := fun y hy => hd y (List.mem_cons_of_mem _ hy)
      rw [List.length_cons] at h30 hn
      show bOk (bX6_writeOff_4 (lX6_writeOff_4 (iv k) n) (iv k) z (iv x) (iv pre.length)) _
      unfold bX6_writeOff_4
      rw [h.r1x hL, bw_b1_s, ite_le (r32n (by rw [List.length_cons]; omega)) (r32n (by omega)), if_neg (by rw [List.length_cons]; omega)]
      rw [f_loanAt, bw_b1_s, h.rAx hL, bw_b1_s, bw_b1_s, h.rBx hL, bw_b1_s, bw_b1_s, h.rDx hL, bw_b1_s, ite_iv (r32n (by omega)) (r32n (by omega)), ite_iv (r32n (by omega)) (r32n (by omega)), bwo_c]
      have key : bOk (jX6_writeOff_63 (lX6_writeOff_4 (iv k) n) z (iv k) (iv x) (iv pre.length) (iv e.1) (iv e.2.1) (iv e.2.2)) fun r => r.1 = iv (x + (e.2.2 + (bwo k es (up2 (up2 s.2.1 e.1 9 (s.2.1 e.1 9 + e.2.2)) e.2.1 8 (up2 s.2.1 e.1 9 (s.2.1 e.1 9 + e.2.2) e.2.1 8 + e.2.2))).2.2)) ∧ bRZ r.2 (s.1, (bwo k es (up2 (up2 s.2.1 e.1 9 (s.2.1 e.1 9 + e.2.2)) e.2.1 8 (up2 s.2.1 e.1 9 (s.2.1 e.1 9 + e.2.2) e.2.1 8 + e.2.2))).2.1, s.2.2.1, pre ++ (bwo k es (up2 (up2 s.2.1 e.1 9 (s.2.1 e.1 9 + e.2.2)) e.2.1 8 (up2 s.2.1 e.1 9 (s.2.1 e.1 9 + e.2.2) e.2.1 8 + e.2.2))).1, s.2.2.2.2.1, s.2.2.2.2.2) := by
        unfold jX6_writeOff_63
        rw [f_at, bw_b1_s, h.rP hd0.1 9 (by omega) (by omega), bw_b1_s, iv_add]
        refine bOk_b1 (h.wP hd0.1 9 (by omega) (by omega) _) fun z1 h1 => ?_
        rw [f_at, bw_b1_s, h1.rP hd0.2 8 (by omega) (by omega), bw_b1_s, iv_add]
        refine bOk_b1 (h1.wP hd0.2 8 (by omega) (by omega) _) fun z2 h2 => ?_
        rw [bw_let_s, iv_add]
        refine bOk_b1 (f_dropLoan h2 (pre := pre) (suf := es) (e := e) hL) fun z3 h3 => ?_
        have := ih pre n (x + e.2.2) z3 _ h3 rfl (by omega) hdt
        dsimp only at this
        rw [Int.add_assoc] at this
        exact this
      by_cases c1 : e.1 = k
      · rw [if_pos (by omega), if_pos (.inl c1)]
        exact key
      · rw [if_neg (by omega)]
        by_cases c2 : e.2.1 = k
        · rw [if_pos (by omega), if_pos (.inr c2)]
          exact key
        · rw [if_neg (by omega), if_neg (fun q => by omega), bw_let_s, iv_succ]
          have := ih (pre ++ [e]) n x z s h (by rw [app_snoc]; exact hL) (by omega) hdt
          rw [app_snoc, len_snoc] at this
          exact this
theorem f_writeOff (h : bRZ z s) (hl : bLok s) {k : Nat} (hk : k < 6) : bOk (fX6_writeOff z (iv k)) fun r => r.1 = iv (bwo k s.2.2.2.1 s.2.1).2.2 ∧ bRZ r.2 (s.1, (bwo k s.2.2.2.1 s.2.1).2.1, s.2.2.1, (bwo k s.2.2.2.1 s.2.1).1, s.2.2.2.2.1, s.2.2.2.2.2) := by
  have h30 := h.l30
  have := l_writeOff hk s.2.2.2.1 [] bw_fu 0 z s h rfl (by unfold bw_fu; omega) hl.ab
  rw [Int.zero_add] at this
  exact this
end
/-! copies -/
theorem l_aside {z : Nat → Int32} : ∀ (d n i : Nat) (asd : Nat → Int32), i + d = 444 → d < n → ∃ a', lX6_putAside_2 z n asd (iv i) = some a' ∧ ∀ j, a' j = if i ≤ j ∧ j < 444 then z j else asd j := by
  intro d
  induction d with
  | zero =>
    intro n i asd hi hn
    cases n with
    | zero => omega
    | succ n =>
      refine ⟨asd, ?_, fun j => by rw [if_neg (by omega)]⟩
      show bX6_putAside_2 (lX6_putAside_2 z n) z asd (iv i) = _
      unfold bX6_putAside_2
      rw [show (444 : Int32) = iv 444 from rfl, ite_le (r32i (by omega) (by omega)) (r32n (by omega)), if_pos (by omega)]
  | succ d ih =>
    intro n i asd hi hn
    cases n with
    | zero => omega
    | succ n =>
      obtain ⟨a', e1, e2⟩ := ih n (i + 1) (upd asd i (z i)) (by omega) (by omega)
      refine ⟨a', ?_, fun j => ?_⟩
      · show bX6_putAside_2 (lX6_putAside_2 z n) z asd (iv i) = _
        unfold bX6_putAside_2
        rw [show (444 : Int32) = iv 444 from rfl, ite_le (r32i (by omega) (by omega)) (r32n (by omega)), if_neg (by omega), bZ_rd rfl (by omega), bw_b1_s, bZ_wr rfl (by omega), bw_b1_s, bw_let_s, iv_succ]
        exact e1
      · rw [e2]
        by_cases c : j = i
        · subst c; rw [if_neg (by omega), if_pos (by omega), upd_self]
        · by_cases c2 : i + 1 ≤ j ∧ j < 444
          · rw [if_pos c2, if_pos (by omega)]
          · rw [if_neg c2, if_neg (by omega), upd_ne _ _ c]
theorem f_putAside (z asd : Nat → Int32) : ∃ a', fX6_putAside z asd = some a' ∧ ∀ j, j < 444 → a' j = z j := by
  obtain ⟨a', e1, e2⟩ := l_aside (z := z) 444 bw_fu 0 asd (by omega) (by unfold bw_fu; omega)
  exact ⟨a', e1, fun j hj => by rw [e2, if_pos (by omega)]⟩
theorem f_putBack (z asd : Nat → Int32) : ∃ a', fX6_putBack z asd = some a' ∧ ∀ j, j < 444 → a' j = asd j := by
  have e : ∀ n (i : Int32) (z : Nat → Int32), lX6_putBack_2 asd n z i = lX6_putAside_2 asd n z i := by
    intro n
    induction n with
    | zero => intro i z; rfl
    | succ n ih =>
      intro i z
      show bX6_putBack_2 (lX6_putBack_2 asd n) asd z i = bX6_putAside_2 (lX6_putAside_2 asd n) asd z i
      unfold bX6_putBack_2 bX6_putAside_2
      split
      · rfl
      · congr 1; funext v; congr 1; funext w; exact ih _ _
  obtain ⟨a', e1, e2⟩ := l_aside (z := asd) 444 bw_fu 0 z (by omega) (by unfold bw_fu; omega)
  refine ⟨a', ?_, fun j hj => by rw [e2, if_pos (by omega)]⟩
  unfold fX6_putBack
  rw [e]
  exact e1
