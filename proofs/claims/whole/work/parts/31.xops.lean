/- needs: 10_base 11_kit 12_refw 13_refs 14_refl 15_pay 16_order 17_charge 18_donow 19_donow2 20_tab 21_xpay 22_xqueue 23_xborrow 24_xdo 25_xdo2 30_refops -/
/-! ===== the class: opened, planned, closed, copied ===== -/
theorem bsP_up {P : Nat → Nat → Int} {k p : Nat} {v : Int} {j c : Nat} (h : p < c) : ∀ {n : Nat}, bsP (up2 P k p v) j c n = bsP P j c n := by
  intro n
  exact bsP_congr fun t _ => up2_c _ _ _ _ (by omega)
theorem bTP_up {P : Nat → Nat → Int} {k p q : Nat} {v : Int} (h : (p = 0 ∧ q = 0) ∨ (p = 1 ∧ q = 1) ∨ (p = 3 ∧ q = 3) ∨ (p = 4 ∧ q = 6) ∨ (p = 7 ∧ q = 9) ∨ (p = 8 ∧ q = 10) ∨ (p = 9 ∧ q = 11)) : bTP (up2 P k p v) = up2 (bTP P) k q v := by
  funext j c
  have h12 : ∀ n, bsP (up2 P k p v) j 10 n = bsP P j 10 n := fun n => bsP_up (by omega)
  have h13 : ∀ n, bsP (up2 P k p v) j 18 n = bsP P j 18 n := fun n => bsP_up (by omega)
  by_cases e : j = k
  · subst e
    by_cases e2 : c = q
    · subst e2
      rw [up2_self]
      unfold bTP
      rcases h with ⟨rfl, rfl⟩ | ⟨rfl, rfl⟩ | ⟨rfl, rfl⟩ | ⟨rfl, rfl⟩ | ⟨rfl, rfl⟩ | ⟨rfl, rfl⟩ | ⟨rfl, rfl⟩ <;> simp [up2]
    · rw [up2_c _ _ _ _ e2]
      unfold bTP
      rw [h12, h13]
      rcases h with ⟨rfl, rfl⟩ | ⟨rfl, rfl⟩ | ⟨rfl, rfl⟩ | ⟨rfl, rfl⟩ | ⟨rfl, rfl⟩ | ⟨rfl, rfl⟩ | ⟨rfl, rfl⟩ <;> simp [up2, e2]
  · rw [up2_k _ _ _ _ e]
    unfold bTP
    rw [h12, h13]
    simp only [up2_k _ _ _ _ e]
section
variable {tp tk tl ts : Nat → Int32} {np nl : Int32} {s : bSt}
theorem x_addProject (h : bRX tp tk tl ts np nl s) (h5 : s.1 ≤ 5) (hz : s.2.2.1 s.1 = 0 ∧ ∀ c, s.2.1 s.1 c = 0) {r b : Int} : bOk (fX0_addProject tp np (iv r) (iv b)) fun q => q.1 = np ∧ bRX q.2.1 tk tl ts q.2.2 nl (bopn s r b) := by
  have hn := h.n
  subst hn
  unfold fX0_addProject
  rw [bw_let_s, iv_succ]
  refine bOk_b1 (h.x.t.p (k := s.1) (by omega) 0 (by omega) r) fun tp1 h1 => ?_
  refine bOk_b1 (h1.p (k := s.1) (by omega) 1 (by omega) b) fun tp2 h2 => ?_
  refine bOk_b1 (h2.p (k := s.1) (by omega) 2 (by omega) b) fun tp3 h3 => ?_
  refine bOk_b1 (h3.p (k := s.1) (by omega) 9 (by omega) 1) fun tp4 h4 => ?_
  refine bOk_s ⟨rfl, by show s.1 + 1 ≤ 6; omega, rfl, ⟨h4.congr fun j c hj hc => ?_, h.x.l⟩, ((h.k.o r (by omega)).o b (by omega)).o 1 (by omega), h.sS⟩
  show bT (bTP (up2 (up2 (up2 s.2.1 s.1 0 r) s.1 1 b) s.1 7 1)) (up1 s.2.2.1 s.1 b) s.2.2.2.1 j c = _
  rw [bTP_up (p := 7) (q := 9) (by omega), bTP_up (p := 1) (q := 1) (by omega), bTP_up (p := 0) (q := 0) (by omega)]
  unfold bT up2 up1
  by_cases c2 : c = 2
  · subst c2; simp
  · by_cases c4 : c = 4
    · subst c4; simp
    · by_cases c5 : c = 5
      · subst c5; simp
      · simp [c2, c4, c5]
theorem x_addTask (h : bRX tp tk tl ts np nl s) {k : Nat} (hk : k < s.1) (h5 : 0 ≤ s.2.1 k 5 ∧ s.2.1 k 5 < 8) (h6 : 0 ≤ s.2.1 k 6 ∧ s.2.1 k 6 ≤ s.2.1 k 5) {days : Int} : bOk (fX0_addTask tp tk (iv k) (iv days)) fun q => q.1 = iv (s.2.1 k 5) ∧ bRX q.2.1 q.2.2 tl ts np nl (bpln s k days) := by
  have n6 := h.n6
  have hk6 : k < 6 := by omega
  have e5 : s.2.1 k 5 = (s.2.1 k 5).toNat := by omega
  have hm : (s.2.1 k 5).toNat < 8 := by omega
  generalize hmm : (s.2.1 k 5).toNat = m at e5 hm
  unfold fX0_addTask
  rw [h.x.t.g hk6 7 (by omega), bw_b1_s, show bT (bTP s.2.1) s.2.2.1 s.2.2.2.1 k 7 = m from e5, x_row, bw_b1_s]
  rw [show (-1 : Int32) = iv (-1) from rfl]
  refine bOk_b1 (h.k.p hk6 hm 0 (by omega) days) fun tk1 hk1 => ?_
  refine bOk_b1 (hk1.p hk6 hm 1 (by omega) (-1)) fun tk2 hk2 => ?_
  refine bOk_b1 (h.x.i hk6 7 (by omega) (by omega) (by omega) (by omega) 1) fun tp1 h1 => ?_
  refine bOk_b1 (h1.i hk6 12 (by omega) (by omega) (by omega) (by omega) days) fun tp2 h2 => ?_
  refine bOk_s ⟨by rw [e5], h.n6, h.n, h2.cg (fun j c hj hc hc2 => ?_) fun j hj => rfl, ?_, h.sS⟩
  · show bTP (up2 (up2 (up2 s.2.1 k (10 + (s.2.1 k 5).toNat) days) k (18 + (s.2.1 k 5).toNat) (-1)) k 5 (s.2.1 k 5 + 1)) j c = _
    rw [hmm]
    have hP : ∀ j c, c ≠ 5 → c ≠ 18 + m → c ≠ 10 + m → up2 (up2 (up2 s.2.1 k (10 + m) days) k (18 + m) (-1)) k 5 (s.2.1 k 5 + 1) j c = s.2.1 j c := fun j c q1 q2 q3 => by rw [up2_c _ _ _ _ q1, up2_c _ _ _ _ q2, up2_c _ _ _ _ q3]
    by_cases e : j = k
    · subst e
      have p12 : bsP (up2 (up2 (up2 s.2.1 j (10 + m) days) j (18 + m) (-1)) j 5 (s.2.1 j 5 + 1)) j 10 (m + 1) = bsP s.2.1 j 10 m + days := by
        show bsP _ j 10 m + _ = _
        rw [bsP_congr (P' := s.2.1) fun t ht => hP _ _ (by omega) (by omega) (by omega), up2_c _ _ _ _ (by omega), up2_c _ _ _ _ (by omega), up2_self]
      have p13 : bsP (up2 (up2 (up2 s.2.1 j (10 + m) days) j (18 + m) (-1)) j 5 (s.2.1 j 5 + 1)) j 18 (s.2.1 j 6).toNat = bsP s.2.1 j 18 (s.2.1 j 6).toNat := bsP_congr fun t ht => hP _ _ (by omega) (by omega) (by omega)
      have hcs : c = 0 ∨ c = 1 ∨ c = 3 ∨ c = 4 ∨ c = 5 ∨ c = 6 ∨ c = 7 ∨ c = 8 ∨ c = 9 ∨ c = 10 ∨ c = 11 ∨ c = 12 ∨ c = 13 := by omega
      have l0 := hP j 0 (by omega) (by omega) (by omega)
      have l1 := hP j 1 (by omega) (by omega) (by omega)
      have l3 := hP j 3 (by omega) (by omega) (by omega)
      have l4 := hP j 4 (by omega) (by omega) (by omega)
      have l6 := hP j 6 (by omega) (by omega) (by omega)
      have l7 := hP j 7 (by omega) (by omega) (by omega)
      have l8 := hP j 8 (by omega) (by omega) (by omega)
      have l9 := hP j 9 (by omega) (by omega) (by omega)
      by_cases c7 : c = 7
      · subst c7
        show up2 _ j 5 (s.2.1 j 5 + 1) j 5 = up2 (up2 (bTP s.2.1) j 7 (bTP s.2.1 j 7 + 1)) j 12 _ j 7
        rw [up2_self, up2_c _ _ _ _ (by omega), up2_self]
        rfl
      · by_cases c12 : c = 12
        · subst c12
          show bsP _ j 10 (up2 _ j 5 (s.2.1 j 5 + 1) j 5).toNat = up2 (up2 (bTP s.2.1) j 7 (bTP s.2.1 j 7 + 1)) j 12 _ j 12
          rw [up2_self, up2_self, show (s.2.1 j 5 + 1).toNat = m + 1 by omega, p12, up2_c _ _ _ _ (by omega)]
          show _ = bsP s.2.1 j 10 (s.2.1 j 5).toNat + days
          rw [hmm]
        · rw [up2_c _ _ _ _ c12, up2_c _ _ _ _ c7]
          rcases hcs with q | q | q | q | q | q | q | q | q | q | q | q | q <;> subst q
          · exact l0
          · exact l1
          · exact l3
          · rfl
          · rfl
          · exact l4
          · exact absurd rfl c7
          · exact l6
          · exact l7
          · exact l8
          · exact l9
          · exact absurd rfl c12
          · show bsP _ j 18 (up2 _ j 5 (s.2.1 j 5 + 1) j 6).toNat = _
            rw [l6, p13]
            rfl
    · rw [up2_k _ _ _ _ e, up2_k _ _ _ _ e]
      have hPj : ∀ c, up2 (up2 (up2 s.2.1 k (10 + m) days) k (18 + m) (-1)) k 5 (s.2.1 k 5 + 1) j c = s.2.1 j c := fun c => by rw [up2_k _ _ _ _ e, up2_k _ _ _ _ e, up2_k _ _ _ _ e]
      unfold bTP
      simp only [hPj, bsP_congr (P' := s.2.1) fun t _ => hPj _]
  · show bRK tk2 (up2 (up2 (up2 s.2.1 k (10 + (s.2.1 k 5).toNat) days) k (18 + (s.2.1 k 5).toNat) (-1)) k 5 (s.2.1 k 5 + 1))
    rw [hmm]
    exact hk2.o _ (by omega)
theorem x_changeRank (h : bRX tp tk tl ts np nl s) {k : Nat} (hk : k < s.1) {r : Int} : bOk (fX0_changeRank tp (iv k) (iv r)) fun q => q.1 = iv (s.2.1 k 0) ∧ bRX q.2 tk tl ts np nl (s.1, up2 s.2.1 k 0 r, s.2.2.1, s.2.2.2.1, s.2.2.2.2.1, s.2.2.2.2.2) := by
  have n6 := h.n6
  unfold fX0_changeRank
  rw [show fX3_get 84 14 tp (iv k) 0 = some (iv (s.2.1 k 0)) from h.x.t.g (by omega) 0 (by omega), bw_b1_s]
  refine bOk_b1 (h.x.p (by omega) 0 (by omega) (by omega) (by omega) (by omega) r) fun tp1 h1 => bOk_s ⟨rfl, h.n6, h.n, ?_, h.k.o r (by omega), h.sS⟩
  show bXL tp1 tl nl (bTP (up2 s.2.1 k 0 r)) s.2.2.1 s.2.2.2.1
  rw [bTP_up (p := 0) (q := 0) (by omega)]
  exact h1
theorem x_changeSetting (h : bRX tp tk tl ts np nl s) {i : Nat} (hi : i < 3) {v : Int} : bOk (fX0_changeSetting ts (iv i) (iv v)) fun q => q.1 = iv (s.2.2.2.2.1 i) ∧ bRX tp tk tl q.2 np nl (s.1, s.2.1, s.2.2.1, s.2.2.2.1, up1 s.2.2.2.2.1 i v, s.2.2.2.2.2) := by
  unfold fX0_changeSetting
  have e1 : fX3_get 3 3 ts 0 (iv i) = some (ts i) := t_get (cn := 3) (cc := 3) (r := 0) (by omega) (by omega) hi
  have e2 : fX3_put 3 3 ts 0 (iv i) (iv v) = some (upd ts i (iv v)) := t_put (cn := 3) (cc := 3) (r := 0) (by omega) (by omega) hi
  rw [e1, bw_b1_s, e2, bw_b1_s]
  refine bOk_s ⟨h.sS i hi, h.n6, h.n, h.x, h.k, fun j hj => ?_⟩
  show upd ts i (iv v) j = iv (up1 s.2.2.2.2.1 i v j)
  by_cases c : j = i
  · subst c; rw [upd_self, up1_self]
  · rw [upd_ne _ _ c, up1_ne _ _ c]; exact h.sS j hj
end
theorem x_writeOff {tp tl : Nat → Int32} {nl : Int32} {T : Nat → Nat → Int} {F : Nat → Int} {pre suf : List bLn} {e : bLn} (h : bXL tp tl nl T F (pre ++ e :: suf)) (ha : e.1 < 6) (hb : e.2.1 < 6) : bOk (fX0_writeOff tp tl nl (iv pre.length)) fun r => r.1 = iv e.2.2 ∧ bXL r.2.1 r.2.2.1 r.2.2.2 (up2 (up2 T e.1 11 (T e.1 11 + e.2.2)) e.2.1 10 (up2 T e.1 11 (T e.1 11 + e.2.2) e.2.1 10 + e.2.2)) F (pre ++ suf) := by
  unfold fX0_writeOff
  rw [h.l.gd, bw_b1_s, h.l.ga, bw_b1_s]
  refine bOk_b1 (h.i ha 11 (by omega) (by omega) (by omega) (by omega) e.2.2) fun tp1 h1 => ?_
  rw [h.l.gb, bw_b1_s]
  refine bOk_b1 (h1.i hb 10 (by omega) (by omega) (by omega) (by omega) e.2.2) fun tp2 h2 => ?_
  rw [iv_neg]
  refine bOk_b3 (x_changeLoan h2 ha hb (x := -e.2.2) (r32i (by omega) (by omega))) fun tp3 tl3 nl3 h3 => ?_
  dsimp only at h3
  have e0 : bcut pre e suf (e.2.2 + -e.2.2) = pre ++ suf := if_pos (by omega)
  rw [e0] at h3
  exact bOk_s ⟨rfl, h3⟩
theorem l_xclose {k : Nat} (hk : k < 6) {F : Nat → Int} : ∀ (suf pre : List bLn) (n : Nat) (x : Int) (tp tl : Nat → Int32) (nl : Int32) (P : Nat → Nat → Int), bXL tp tl nl (bTP P) F (pre ++ suf) → suf.length < n → (∀ e ∈ suf, e.1 < 6 ∧ e.2.1 < 6) → bOk (lX0_closeProject_24 (iv k) n tp tl nl (iv x) (iv pre.length) (iv suf.length)) fun r => r.1 = iv (x + (bwo k suf P).2.2) ∧ bXL r.2.1 r.2.2.1 r.2.2.2 (bTP (up2 (bwo k suf P).2.1 k 7 0)) F (pre ++ (bwo k suf P).1) := by
  intro suf
  induction suf with
  | nil =>
    intro pre n x tp tl nl P h hn hd
    cases n with
    | zero => omega
    | succ n =>
      show bOk (bX0_closeProject_24 (lX0_closeProject_24 (iv k) n) (iv k) tp tl nl (iv x) (iv pre.length) (iv 0)) _
      unfold bX0_closeProject_24
      rw [if_pos (show iv 0 ≤ 0 by decide)]
      refine bOk_b1 (h.p hk 9 (by omega) (by omega) (by omega) (by omega) 0) fun tp1 h1 => bOk_s ⟨by show iv x = iv (x + 0); rw [Int.add_zero], ?_⟩
      show bXL tp1 tl nl (bTP (up2 P k 7 0)) F (pre ++ [])
      rw [bTP_up (p := 7) (q := 9) (by omega)]
      exact h1
  | cons e es ih =>
    intro pre n x tp tl nl P h hn hd
    cases n with
    | zero => simp at hn
    | succ n =>
      have h30 := h.l.len
      have hd0 := hd e List.mem_cons_self
      have hdt : ∀ e ∈ es, e.1 < 6 ∧ e.2.1 < 6 := fun y hy => hd y (List.mem_cons_of_mem _ hy)
      rw [List.length_cons] at hn
      show bOk (bX0_closeProject_24 (lX0_closeProject_24 (iv k) n) (iv k) tp tl nl (iv x) (iv pre.length) (iv ((es.length + 1 : Nat) : Int))) _
      unfold bX0_closeProject_24
      have em : iv ((es.length + 1 : Nat) : Int) + (-1) = iv es.length := by
        rw [show (-1 : Int32) = iv (-1) from rfl, iv_add]; congr 1; omega
      rw [h.l.ga, bw_b1_s, h.l.gb, bw_b1_s, ite_iv (r32n (by omega)) (r32n (by omega)), ite_iv (r32n (by omega)) (r32n (by omega)), show (0 : Int32) = iv 0 from rfl, ite_le (r32n (by omega)) (r32i (by omega) (by omega)), if_neg (by omega), bwo_c]
      have key : bOk (jX0_closeProject_55 (lX0_closeProject_24 (iv k) n) tp tl nl (iv k) (iv x) (iv pre.length) (iv ((es.length + 1 : Nat) : Int))) fun r => r.1 = iv (x + (e.2.2 + (bwo k es (up2 (up2 P e.1 9 (P e.1 9 + e.2.2)) e.2.1 8 (up2 P e.1 9 (P e.1 9 + e.2.2) e.2.1 8 + e.2.2))).2.2)) ∧ bXL r.2.1 r.2.2.1 r.2.2.2 (bTP (up2 (bwo k es (up2 (up2 P e.1 9 (P e.1 9 + e.2.2)) e.2.1 8 (up2 P e.1 9 (P e.1 9 + e.2.2) e.2.1 8 + e.2.2))).2.1 k 7 0)) F (pre ++ (bwo k es (up2 (up2 P e.1 9 (P e.1 9 + e.2.2)) e.2.1 8 (up2 P e.1 9 (P e.1 9 + e.2.2) e.2.1 8 + e.2.2))).1) := by
        unfold jX0_closeProject_55 jX0_closeProject_69
        refine bOk_b4 (x_writeOff h hd0.1 hd0.2) fun d1 tp1 tl1 nl1 h1 => ?_
        obtain ⟨q1, h1⟩ := h1
        dsimp only at q1 h1
        subst q1
        rw [bw_let_s, bw_let_s, iv_add, em]
        have h2 : bXL tp1 tl1 nl1 (bTP (up2 (up2 P e.1 9 (P e.1 9 + e.2.2)) e.2.1 8 (up2 P e.1 9 (P e.1 9 + e.2.2) e.2.1 8 + e.2.2))) F (pre ++ es) := by
          rw [bTP_up (p := 8) (q := 10) (by omega), bTP_up (p := 9) (q := 11) (by omega)]
          have e9 : bTP P e.1 11 = P e.1 9 := rfl
          have e8 : up2 (bTP P) e.1 11 (bTP P e.1 11 + e.2.2) e.2.1 10 = up2 P e.1 9 (P e.1 9 + e.2.2) e.2.1 8 := by
            rw [up2_c _ _ _ _ (by omega), up2_c _ _ _ _ (by omega)]
            rfl
          rw [e8, e9] at h1
          exact h1
        have := ih pre n (x + e.2.2) tp1 tl1 nl1 _ h2 (by omega) hdt
        rw [Int.add_assoc] at this
        exact this
      by_cases c1 : e.1 = k
      · rw [if_pos (by omega), if_pos (.inl c1)]
        exact key
      · rw [if_neg (by omega)]
        by_cases c2 : e.2.1 = k
        · rw [if_pos (by omega), if_pos (.inr c2)]
          exact key
        · rw [if_neg (by omega), if_neg (fun q => by omega)]
          unfold jX0_closeProject_69
          rw [bw_let_s, bw_let_s, em, iv_succ]
          have := ih (pre ++ [e]) n x tp tl nl P (by rw [app_snoc]; exact h) (by omega) hdt
          rw [app_snoc, len_snoc] at this
          exact this
/-! a desk -/
def bRD (d : Nat → Nat → Int32) (s : bSt) : Prop := bRX (d 0) (d 1) (d 2) (d 3) (d 5 0) (d 5 1) s
theorem bRX.congr {tp tk tl ts tp' tk' tl' ts' : Nat → Int32} {np nl : Int32} {s : bSt} (h : bRX tp tk tl ts np nl s) (e0 : ∀ j, j < 84 → tp' j = tp j) (e1 : ∀ j, j < 288 → tk' j = tk j) (e2 : ∀ j, j < 90 → tl' j = tl j) (e3 : ∀ j, j < 3 → ts' j = ts j) : bRX tp' tk' tl' ts' np nl s := by
  have l30 := h.x.l.l30
  refine ⟨h.n6, h.n, ⟨fun k c hk hc => ?_, h.x.l.n, h.x.l.l30, fun i hi => ?_, fun i hi => ?_, fun i hi => ?_⟩, fun k t c hk ht hc => ?_, fun i hi => ?_⟩
  · rw [e0 _ (by omega)]; exact h.x.t k c hk hc
  · rw [e2 _ (by omega)]; exact h.x.l.fa i hi
  · rw [e2 _ (by omega)]; exact h.x.l.fb i hi
  · rw [e2 _ (by omega)]; exact h.x.l.fd i hi
  · rw [e1 _ (by omega)]; exact h.k k t c hk ht hc
  · rw [e3 _ (by omega)]; exact h.sS i hi
theorem bw_cp_e (n : Nat) (f g : Nat → Int32) (j : Nat) (hj : j < n) : bw_cp n f g j = f j := by
  show (if 0 ≤ j ∧ j < 0 + n then f (0 + (j - 0)) else g j) = f j
  rw [if_pos (by omega)]
  congr 1
  omega
theorem bRD.cp {d t : Nat → Nat → Int32} {s : bSt} (h : bRD d s) : bRD (bw_cpD t d) s := by
  have e5a : bw_cpD t d 5 0 = d 5 0 := by
    show upd (upd (t 5) 0 (d 5 0)) 1 (d 5 1) 0 = _
    rw [upd_ne _ _ (by omega), upd_self]
  have e5b : bw_cpD t d 5 1 = d 5 1 := by
    show upd (upd (t 5) 0 (d 5 0)) 1 (d 5 1) 1 = _
    rw [upd_self]
  show bRX (bw_cp 84 (d 0) (t 0)) (bw_cp 288 (d 1) (t 1)) (bw_cp 90 (d 2) (t 2)) (bw_cp 3 (d 3) (t 3)) (bw_cpD t d 5 0) (bw_cpD t d 5 1) s
  rw [e5a, e5b]
  exact bRX.congr h (fun j hj => bw_cp_e _ _ _ _ hj) (fun j hj => bw_cp_e _ _ _ _ hj) (fun j hj => bw_cp_e _ _ _ _ hj) (fun j hj => bw_cp_e _ _ _ _ hj)
