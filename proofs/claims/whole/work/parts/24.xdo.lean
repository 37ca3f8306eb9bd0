/- needs: 10_base 11_kit 12_refw 13_refs 14_refl 15_pay 16_order 17_charge 18_donow 19_donow2 20_tab 21_xpay 22_xqueue 23_xborrow -/
/-! ===== the class: a task is done ===== -/
theorem x_borrow {tp tl ts : Nat → Int32} {nl : Int32} {T : Nat → Nat → Int} {s : bSt} {f b : Int} (h : bXL tp tl nl T s.2.2.1 s.2.2.2.1) (hs : bXS tp ts T s) (hi : bMi s f b) (hf : f ≤ 1000000) (hb : b + f ≤ 500000000) (hf0 : 0 ≤ f) {k : Nat} (hk : k < s.1) (ho : s.2.1 k 7 = 1) {tq : bw_A1} {need : Int} (hneed : 0 ≤ need ∧ need ≤ 1000000000) : bOk (fX0_borrow tp tl ts tq (iv s.1) nl (iv k) (iv need)) fun r => r.1 = iv (need - (bborS s k need).2.2) ∧ bXL r.2.1 r.2.2.1 r.2.2.2.2 (up2 T k 3 (T k 3 + (need - (bborS s k need).2.2))) (bborS s k need).2.1 (bborS s k need).1 := by
  have h6 := hi.n6
  have hsm := hi.sm hf
  unfold fX0_borrow
  refine bOk_b2 (x_queue hs hsm h6 (hi.lt (by omega)) hk tq) fun r2 tq2 hq => ?_
  obtain ⟨e, hq⟩ := hq
  dsimp only at e hq
  subst e
  have e5 : bl5 s k = bl4 s k := if_pos ho
  have hl6 : (bl4 s k).length ≤ 6 := by rw [← e5]; exact nodup_lt 6 _ bl5_nd fun x hx => by have := bl5_in hx; omega
  have := l_xborrow (ts := ts) hk h6 hq hl6 hneed (bnd := b + f) hb (bl4 s k) [] bw_fu need tp tl nl T s.2.2.1 s.2.2.2.1 rfl (by unfold bw_fu; omega) h hi.w hi.pos (by have := hi.FS; have := hi.LS; omega) hi.F0 (fun j hj => by
    rw [← e5] at hj
    have h1 := bl5_in hj
    exact ⟨h1.1, h1.2.1, h1.2.2, bcl_le hsm h1.1⟩) (by rw [← e5]; exact bl5_nd) (by omega)
  rw [Int.sub_self] at this
  have e6 : bborS s k need = bbor k (bcl s) (bl4 s k) need s.2.2.2.1 s.2.2.1 := by unfold bborS; rw [e5]
  rw [e6]
  exact this
/-! the tasks' table -/
def bkc (t c : Nat) : Nat := if c = 0 then 10 + t else if c = 1 then 18 + t else 26 + 4 * t + (c - 2)
def bRK (tk : Nat → Int32) (P : Nat → Nat → Int) : Prop := ∀ k t c : Nat, k < 6 → t < 8 → c < 6 → tk (6 * (8 * k + t) + c) = iv (P k (bkc t c))
section
variable {tk : Nat → Int32} {P : Nat → Nat → Int}
theorem x_row (k t : Nat) : fX0_rowOfTask (iv k) (iv t) = some (iv ((8 * k + t : Nat) : Int)) := by
  unfold fX0_rowOfTask
  rw [show (8 : Int32) = iv 8 from rfl, iv_mul, iv_add]
  congr 2
  omega
theorem bRK.g (h : bRK tk P) {k t : Nat} (hk : k < 6) (ht : t < 8) (c : Nat) (hc : c < 6) : fX3_get 288 6 tk (iv ((8 * k + t : Nat) : Int)) (OfNat.ofNat c) = some (iv (P k (bkc t c))) := by
  rw [iv_castv c, show (6 : Int32) = iv 6 from rfl, t_get (i := 6 * (8 * k + t) + c) (by omega) (by omega) (by omega), h k t c hk ht hc]
theorem bRK.gv (h : bRK tk P) {k t : Nat} (hk : k < 6) (ht : t < 8) {c : Nat} (hc : c < 6) : fX3_get 288 6 tk (iv ((8 * k + t : Nat) : Int)) (iv c) = some (iv (P k (bkc t c))) := by
  rw [show (6 : Int32) = iv 6 from rfl, t_get (i := 6 * (8 * k + t) + c) (by omega) (by omega) (by omega), h k t c hk ht hc]
theorem bkc_inj {t t' c c' : Nat} (ht : t < 8) (ht' : t' < 8) (hc : c < 6) (hc' : c' < 6) (h : bkc t c = bkc t' c') : t = t' ∧ c = c' := by
  unfold bkc at h
  split at h <;> (try split at h) <;> (try split at h) <;> (try split at h) <;> omega
theorem bRK.p (h : bRK tk P) {k t : Nat} (hk : k < 6) (ht : t < 8) (c : Nat) (hc : c < 6) (v : Int) : bOk (fX3_put 288 6 tk (iv ((8 * k + t : Nat) : Int)) (OfNat.ofNat c) (iv v)) fun tk' => bRK tk' (up2 P k (bkc t c) v) := by
  refine ⟨_, by rw [iv_castv c, show (6 : Int32) = iv 6 from rfl, t_put (i := 6 * (8 * k + t) + c) (by omega) (by omega) (by omega)], fun k' t' c' hk' ht' hc' => ?_⟩
  by_cases e : k' = k ∧ t' = t ∧ c' = c
  · obtain ⟨e1, e2, e3⟩ := e
    subst e1 e2 e3
    rw [upd_self, up2_self]
  · rw [upd_ne _ _ (by omega), h k' t' c' hk' ht' hc']
    congr 1
    unfold up2
    rw [if_neg]
    rintro ⟨q1, q2⟩
    have := bkc_inj ht' ht hc' hc q2
    exact e ⟨q1, this.1, this.2⟩
/-- a column that the tasks' table does not have -/
theorem bRK.o (h : bRK tk P) {k c : Nat} (v : Int) (hc : c < 10) : bRK tk (up2 P k c v) := by
  intro k' t' c' hk' ht' hc'
  rw [h k' t' c' hk' ht' hc', up2_c]
  unfold bkc
  split
  · omega
  · split <;> omega
end
/-! the whole of a desk -/
def bsP (P : Nat → Nat → Int) (k c : Nat) : Nat → Int
  | 0 => 0
  | n + 1 => bsP P k c n + P k (c + n)
theorem bsP_congr {P P' : Nat → Nat → Int} {k c : Nat} : ∀ {n : Nat}, (∀ t, t < n → P k (c + t) = P' k (c + t)) → bsP P k c n = bsP P' k c n := by
  intro n
  induction n with
  | zero => intro _; rfl
  | succ n ih =>
    intro h
    unfold bsP
    rw [ih fun t ht => h t (by omega), h n (by omega)]
def bTP (P : Nat → Nat → Int) (k c : Nat) : Int := if c = 0 then P k 0 else if c = 1 then P k 1 else if c = 3 then P k 3 else if c = 6 then P k 4 else if c = 7 then P k 5 else if c = 8 then P k 6 else if c = 9 then P k 7 else if c = 10 then P k 8 else if c = 11 then P k 9 else if c = 12 then bsP P k 10 (P k 5).toNat else if c = 13 then bsP P k 18 (P k 6).toNat else 0
abbrev bRX (tp tk tl ts : Nat → Int32) (np nl : Int32) (s : bSt) : Prop := (s.1 ≤ 6) ∧ (np = iv s.1) ∧ (bXL tp tl nl (bTP s.2.1) s.2.2.1 s.2.2.2.1) ∧ (bRK tk s.2.1) ∧ (∀ i : Nat, i < 3 → ts i = iv (s.2.2.2.2.1 i))
theorem bRX.n6 {tp tk tl ts : Nat → Int32} {np nl : Int32} {s : bSt} (h__ : bRX tp tk tl ts np nl s) : s.1 ≤ 6 := h__.1
theorem bRX.n {tp tk tl ts : Nat → Int32} {np nl : Int32} {s : bSt} (h__ : bRX tp tk tl ts np nl s) : np = iv s.1 := h__.2.1
theorem bRX.x {tp tk tl ts : Nat → Int32} {np nl : Int32} {s : bSt} (h__ : bRX tp tk tl ts np nl s) : bXL tp tl nl (bTP s.2.1) s.2.2.1 s.2.2.2.1 := h__.2.2.1
theorem bRX.k {tp tk tl ts : Nat → Int32} {np nl : Int32} {s : bSt} (h__ : bRX tp tk tl ts np nl s) : bRK tk s.2.1 := h__.2.2.2.1
theorem bRX.sS {tp tk tl ts : Nat → Int32} {np nl : Int32} {s : bSt} (h__ : bRX tp tk tl ts np nl s) : ∀ i : Nat, i < 3 → ts i = iv (s.2.2.2.2.1 i) := h__.2.2.2.2
theorem bRX.xs {tp tk tl ts : Nat → Int32} {np nl : Int32} {s : bSt} (h : bRX tp tk tl ts np nl s) : bXS tp ts (bTP s.2.1) s := ⟨h.x.t, h.sS, fun k hk => ⟨rfl, rfl, rfl⟩⟩
/-! nothing is charged of nothing -/
theorem bcall_0 {k : Nat} {L : List bLn} {F : Nat → Int} : bcall k L 0 F = (L, F, 0) := by
  cases L with
  | nil => rfl
  | cons e es => rw [bcall_c, if_pos (by omega)]
theorem bbor_0 {k : Nat} {c : Nat → Int} {js : List Nat} {L : List bLn} {F : Nat → Int} : bbor k c js 0 L F = (L, F, 0) := by
  cases js with
  | nil => rfl
  | cons e es => rw [bbor_c, if_pos (by omega)]
theorem bpay_0 {k : Nat} {L : List bLn} {F : Nat → Int} : bpay k L 0 F = (L, F) := by
  cases L with
  | nil => rfl
  | cons e es => rw [bpay_c, if_pos (by omega)]
theorem up1_id (F : Nat → Int) (k : Nat) {v : Int} (h : v = F k) : up1 F k v = F := by
  funext j
  unfold up1
  split
  · rename_i e; rw [e, h]
  · rfl
theorem up2_id (P : Nat → Nat → Int) (k c : Nat) {v : Int} (h : v = P k c) : up2 P k c v = P := by
  funext j e
  unfold up2
  split
  · rename_i q; rw [q.1, q.2, h]
  · rfl
section
variable {s : bSt} {k : Nat}
theorem bowd_0 (h : 0 ≤ s.2.2.1 k) : bowd s k 0 = 0 := by unfold bowd; omega
theorem bchr_0 (h : 0 ≤ s.2.2.1 k) : bchr s k 0 = (s.2.2.2.1, s.2.2.1, 0) := by
  unfold bchr bch1
  dsimp only
  rw [bowd_0 h, up1_id _ _ (by omega), Int.sub_zero, bcall_0]
theorem bcad_0 (h : 0 ≤ s.2.2.1 k) : bcad s k 0 = 0 := by unfold bcad; rw [bowd_0 h, bchr_0 h]; rfl
theorem bchb_0 (h : 0 ≤ s.2.2.1 k) : bchb s k 0 = (s.2.2.2.1, s.2.2.1, 0) := by
  unfold bchb bborS bch2
  rw [bowd_0 h, bcad_0 h, bchr_0 h]
  dsimp only
  rw [show (0 : Int) - 0 - 0 = 0 from rfl, bbor_0]
theorem bbod_0 (h : 0 ≤ s.2.2.1 k) : bbod s k 0 = 0 := by unfold bbod; rw [bowd_0 h, bcad_0 h, bchb_0 h]; rfl
theorem blad_0 (h : 0 ≤ s.2.2.1 k) : blad s k 0 = 0 := by unfold blad; rw [bchb_0 h]
theorem bch3_0 (h : 0 ≤ s.2.2.1 k) : bch3 s k 0 = s := by unfold bch3; rw [bchb_0 h]
end
theorem x_hasNext {tp : Nat → Int32} {T : Nat → Nat → Int} {k : Nat} (h : bRT tp T) (hk : k < 6) {o m d : Int} (e9 : T k 9 = o) (ho : o = 0 ∨ o = 1) (e7 : T k 7 = m) (e8 : T k 8 = d) (hm : r32 m) (hd : r32 d) : fX0_hasNextTask tp (iv k) = some (if o = 1 ∧ d < m then 1 else 0) := by
  unfold fX0_hasNextTask fX0_isOpen jX0_hasNextTask_35
  rw [h.g hk 9 (by omega), bw_b1_s, e9, h.g hk 8 (by omega), bw_b1_s, h.g hk 7 (by omega), bw_b1_s, e7, e8, ite_le hm hd, show (1 : Int32) = iv 1 from rfl, ite_iv (by unfold r32; omega) (by unfold r32; omega)]
  by_cases c : o = 1
  · rw [if_pos c, bw_b1_s, if_neg (by decide)]
    by_cases c2 : m ≤ d
    · rw [if_pos c2, if_neg (by omega)]
    · rw [if_neg c2, if_pos ⟨c, by omega⟩]
  · rw [if_neg c, bw_b1_s, if_pos (by decide), if_neg (fun q => c q.1)]
