/- needs: 10_base 11_kit 12_refw 13_refs 14_refl 15_pay 16_order 17_charge 18_donow 19_donow2 20_tab 21_xpay 22_xqueue 23_xborrow 24_xdo 25_xdo2 30_refops 31_xops -/
/-! ===== saved states ===== -/
/-- the reference's rows; the newest state first -/
abbrev bRR (rows : Nat → Int32) (sm : Int32) (H : List bSt) : Prop := (sm = iv H.length) ∧ (H.length ≤ 6) ∧ (∀ (i : Nat) (h : i < H.length), bRZ (fun j => rows (444 * (H.length - 1 - i) + j)) H[i])
theorem bRR.n {rows : Nat → Int32} {sm : Int32} {H : List bSt} (h__ : bRR rows sm H) : sm = iv H.length := h__.1
theorem bRR.l6 {rows : Nat → Int32} {sm : Int32} {H : List bSt} (h__ : bRR rows sm H) : H.length ≤ 6 := h__.2.1
theorem bRR.r {rows : Nat → Int32} {sm : Int32} {H : List bSt} (h__ : bRR rows sm H) : ∀ (i : Nat) (h : i < H.length), bRZ (fun j => rows (444 * (H.length - 1 - i) + j)) H[i] := h__.2.2
/-- the class's ring -/
abbrev bRH (sl : Nat → Nat → Nat → Int32) (hn hs : Int32) (H : List bSt) : Prop := (hs = iv H.length) ∧ (H.length ≤ 6) ∧ (∃ p : Nat, p < 6 ∧ hn = iv p ∧ ∀ (i : Nat) (h : i < H.length), bRD (sl ((p + 5 - i) % 6)) H[i])
theorem bRH.n {sl : Nat → Nat → Nat → Int32} {hn hs : Int32} {H : List bSt} (h__ : bRH sl hn hs H) : hs = iv H.length := h__.1
theorem bRH.l6 {sl : Nat → Nat → Nat → Int32} {hn hs : Int32} {H : List bSt} (h__ : bRH sl hn hs H) : H.length ≤ 6 := h__.2.1
theorem bRH.r {sl : Nat → Nat → Nat → Int32} {hn hs : Int32} {H : List bSt} (h__ : bRH sl hn hs H) : ∃ p : Nat, p < 6 ∧ hn = iv p ∧ ∀ (i : Nat) (h : i < H.length), bRD (sl ((p + 5 - i) % 6)) H[i] := h__.2.2
def bpush (s : bSt) (H : List bSt) : List bSt := (s :: H).take 6
theorem l_row {z : Nat → Int32} {m : Nat} (hm : m ≤ 5) : ∀ (d n i : Nat) (rows : Nat → Int32), i + d = 444 → d < n → ∃ r', lX6_save_52 z (iv m) n rows (iv i) = some (r', iv ((m + 1 : Nat) : Int)) ∧ ∀ j, r' j = if 444 * m + i ≤ j ∧ j < 444 * m + 444 then z (j - 444 * m) else rows j := by
  intro d
  induction d with
  | zero =>
    intro n i rows hi hn
    cases n with
    | zero => omega
    | succ n =>
      refine ⟨rows, ?_, fun j => by rw [if_neg (by omega)]⟩
      show bX6_save_52 (lX6_save_52 z (iv m) n) z (iv m) rows (iv i) = _
      unfold bX6_save_52
      rw [show (444 : Int32) = iv 444 from rfl, ite_le (r32i (by omega) (by omega)) (r32n (by omega)), if_pos (by omega), bw_let_s, iv_succ]
  | succ d ih =>
    intro n i rows hi hn
    cases n with
    | zero => omega
    | succ n =>
      obtain ⟨r', e1, e2⟩ := ih n (i + 1) (upd rows (444 * m + i) (z i)) (by omega) (by omega)
      refine ⟨r', ?_, fun j => ?_⟩
      · show bX6_save_52 (lX6_save_52 z (iv m) n) z (iv m) rows (iv i) = _
        unfold bX6_save_52
        rw [show (444 : Int32) = iv 444 from rfl, ite_le (r32i (by omega) (by omega)) (r32n (by omega)), if_neg (by omega), bZ_rd rfl (by omega), bw_b1_s, iv_mul, iv_add, iv_wr (by omega) (by omega) (by omega), bw_b1_s, bw_let_s, iv_succ, show (444 * (m : Int) + i).toNat = 444 * m + i by omega]
        exact e1
      · rw [e2]
        by_cases c : j = 444 * m + i
        · subst c; rw [if_neg (by omega), if_pos (by omega), upd_self]; congr 1; omega
        · by_cases c2 : 444 * m + (i + 1) ≤ j ∧ j < 444 * m + 444
          · rw [if_pos c2, if_pos (by omega)]
          · rw [if_neg c2, if_neg (by omega), upd_ne _ _ c]
theorem l_shift {z : Nat → Int32} : ∀ (d n i : Nat) (rows : Nat → Int32), i + d = 2220 → d < n → ∃ r', lX6_save_11 z (iv 6) n rows (iv i) = jX6_save_50 z r' (iv 5) ∧ ∀ j, r' j = if i ≤ j ∧ j < 2220 then rows (j + 444) else rows j := by
  intro d
  induction d with
  | zero =>
    intro n i rows hi hn
    cases n with
    | zero => omega
    | succ n =>
      refine ⟨rows, ?_, fun j => by rw [if_neg (by omega)]⟩
      show bX6_save_11 (lX6_save_11 z (iv 6) n) z (iv 6) rows (iv i) = _
      unfold bX6_save_11
      rw [show (2220 : Int32) = iv 2220 from rfl, ite_le (r32i (by omega) (by omega)) (r32n (by omega)), if_pos (by omega), bw_let_s, show (1 : Int32) = iv 1 from rfl, iv_sub]
      rfl
  | succ d ih =>
    intro n i rows hi hn
    cases n with
    | zero => omega
    | succ n =>
      obtain ⟨r', e1, e2⟩ := ih n (i + 1) (upd rows i (rows (i + 444))) (by omega) (by omega)
      refine ⟨r', ?_, fun j => ?_⟩
      · show bX6_save_11 (lX6_save_11 z (iv 6) n) z (iv 6) rows (iv i) = _
        unfold bX6_save_11
        rw [show (2220 : Int32) = iv 2220 from rfl, ite_le (r32i (by omega) (by omega)) (r32n (by omega)), if_neg (by omega), show (444 : Int32) = iv 444 from rfl, iv_add, iv_rd (by omega) (by omega) (by omega), bw_b1_s, iv_wr (by omega) (by omega) (by omega), bw_b1_s, bw_let_s, iv_succ]
        exact e1
      · rw [e2]
        by_cases c : j = i
        · subst c; rw [if_neg (by omega), if_pos (by omega), upd_self]
        · by_cases c2 : i + 1 ≤ j ∧ j < 2220
          · rw [if_pos c2, if_pos (by omega), upd_ne _ _ (by omega)]
          · rw [if_neg c2, if_neg (by omega), upd_ne _ _ c]
theorem bpush_len (s : bSt) (H : List bSt) : (bpush s H).length = min 6 (H.length + 1) := by unfold bpush; rw [List.length_take, List.length_cons]
theorem bpush_0 (s : bSt) (H : List bSt) (h : 0 < (bpush s H).length) : (bpush s H)[0] = s := by unfold bpush; simp
theorem bpush_s (s : bSt) (H : List bSt) (i : Nat) (h : i + 1 < (bpush s H).length) : ∃ h' : i < H.length, (bpush s H)[i + 1] = H[i] := by
  have := bpush_len s H
  refine ⟨by omega, ?_⟩
  unfold bpush
  simp
theorem f_save {z rows : Nat → Int32} {sm : Int32} {s : bSt} {H : List bSt} (hz : bRZ z s) (h : bRR rows sm H) : bOk (fX6_save z rows sm) fun r => bRR r.1 r.2 (bpush s H) := by
  have l6 := h.l6
  have hl := bpush_len s H
  unfold fX6_save
  rw [h.n, show (6 : Int32) = iv 6 from rfl, ite_iv (r32n (by omega)) (r32i (by omega) (by omega))]
  by_cases c : (H.length : Int) = 6
  · rw [if_pos c, c, show (0 : Int32) = iv ((0 : Nat) : Int) from rfl]
    obtain ⟨r1, e1, e2⟩ := l_shift (z := z) 2220 bw_fu 0 rows (by omega) (by unfold bw_fu; omega)
    rw [e1]
    unfold jX6_save_50
    obtain ⟨r2, e3, e4⟩ := l_row (z := z) (m := 5) (by omega) 444 bw_fu 0 r1 (by omega) (by unfold bw_fu; omega)
    refine ⟨_, e3, by rw [hl]; exact congrArg iv (by omega), by omega, fun i hi => ?_⟩
    cases i with
    | zero =>
      rw [bpush_0]
      refine hz.congr fun j hj => ?_
      show r2 (444 * ((bpush s H).length - 1 - 0) + j) = z j
      rw [hl, e4, if_pos (by omega)]
      exact congrArg z (by omega)
    | succ i =>
      obtain ⟨h', e5⟩ := bpush_s s H i hi
      rw [e5]
      refine (h.r i h').congr fun j hj => ?_
      show r2 (444 * ((bpush s H).length - 1 - (i + 1)) + j) = rows (444 * (H.length - 1 - i) + j)
      rw [hl, e4, if_neg (by omega), e2, if_pos (by omega)]
      exact congrArg rows (by omega)
  · rw [if_neg c]
    unfold jX6_save_50
    rw [show (0 : Int32) = iv ((0 : Nat) : Int) from rfl]
    obtain ⟨r2, e3, e4⟩ := l_row (z := z) (m := H.length) (by omega) 444 bw_fu 0 rows (by omega) (by unfold bw_fu; omega)
    refine ⟨_, e3, by rw [hl]; exact congrArg iv (by omega), by omega, fun i hi => ?_⟩
    cases i with
    | zero =>
      rw [bpush_0]
      refine hz.congr fun j hj => ?_
      show r2 (444 * ((bpush s H).length - 1 - 0) + j) = z j
      rw [hl, e4, if_pos (by omega)]
      exact congrArg z (by omega)
    | succ i =>
      obtain ⟨h', e5⟩ := bpush_s s H i hi
      rw [e5]
      refine (h.r i h').congr fun j hj => ?_
      show r2 (444 * ((bpush s H).length - 1 - (i + 1)) + j) = rows (444 * (H.length - 1 - i) + j)
      rw [hl, e4, if_neg (by omega)]
      exact congrArg rows (by omega)
theorem l_undo {rows : Nat → Int32} {m : Nat} (hm : m ≤ 5) {th : Int32} : ∀ (d n i : Nat) (z : Nat → Int32), i + d = 444 → d < n → ∃ z', lX6_undo_30 rows (iv m) th n z (iv i) = some (iv m, z', iv m, th) ∧ ∀ j, z' j = if i ≤ j ∧ j < 444 then rows (444 * m + j) else z j := by
  intro d
  induction d with
  | zero =>
    intro n i z hi hn
    cases n with
    | zero => omega
    | succ n =>
      refine ⟨z, ?_, fun j => by rw [if_neg (by omega)]⟩
      show bX6_undo_30 (lX6_undo_30 rows (iv m) th n) rows (iv m) th z (iv i) = _
      unfold bX6_undo_30
      rw [show (444 : Int32) = iv 444 from rfl, ite_le (r32i (by omega) (by omega)) (r32n (by omega)), if_pos (by omega)]
  | succ d ih =>
    intro n i z hi hn
    cases n with
    | zero => omega
    | succ n =>
      obtain ⟨z', e1, e2⟩ := ih n (i + 1) (upd z i (rows (444 * m + i))) (by omega) (by omega)
      refine ⟨z', ?_, fun j => ?_⟩
      · show bX6_undo_30 (lX6_undo_30 rows (iv m) th n) rows (iv m) th z (iv i) = _
        unfold bX6_undo_30
        rw [show (444 : Int32) = iv 444 from rfl, ite_le (r32i (by omega) (by omega)) (r32n (by omega)), if_neg (by omega), iv_mul, iv_add, iv_rd (by omega) (by omega) (by omega), bw_b1_s, bZ_wr rfl (by omega), bw_b1_s, bw_let_s, iv_succ, show (444 * (m : Int) + i).toNat = 444 * m + i by omega]
        exact e1
      · rw [e2]
        by_cases c : j = i
        · subst c; rw [if_neg (by omega), if_pos (by omega), upd_self]
        · by_cases c2 : i + 1 ≤ j ∧ j < 444
          · rw [if_pos c2, if_pos (by omega)]
          · rw [if_neg c2, if_neg (by omega), upd_ne _ _ c]
theorem f_undo {z rows : Nat → Int32} {sm th : Int32} {s : bSt} {H : List bSt} (h : bRR rows sm (s :: H)) : bOk (fX6_undo z rows sm th) fun r => r.1 = iv H.length ∧ bRZ r.2.1 s ∧ bRR rows r.2.2.1 H ∧ r.2.2.2 = 0 := by
  have l6 := h.l6
  rw [List.length_cons] at l6
  unfold fX6_undo
  rw [h.n, List.length_cons, if_neg (by
    rw [show (0 : Int32) = iv 0 from rfl, iv_eq (by omega) (by omega) (by omega) (by omega)]
    omega), bw_let_s, show (1 : Int32) = iv 1 from rfl, iv_sub, show ((H.length + 1 : Nat) : Int) - 1 = (H.length : Int) by omega, show (0 : Int32) = iv ((0 : Nat) : Int) from rfl]
  obtain ⟨z', e1, e2⟩ := l_undo (rows := rows) (m := H.length) (by omega) (th := iv ((0 : Nat) : Int)) 444 bw_fu 0 z (by omega) (by unfold bw_fu; omega)
  refine ⟨_, e1, rfl, ?_, ⟨rfl, by omega, fun i hi => ?_⟩, rfl⟩
  · have := h.r 0 (by simp)
    refine this.congr fun j hj => ?_
    show z' j = rows (444 * ((s :: H).length - 1 - 0) + j)
    rw [e2, if_pos (by omega), List.length_cons]
    congr 1
  · have := h.r (i + 1) (by simpa using hi)
    refine this.congr fun j hj => ?_
    show rows (444 * (H.length - 1 - i) + j) = rows (444 * ((s :: H).length - 1 - (i + 1)) + j)
    rw [List.length_cons]
    congr 1
    omega
theorem f_undo_0 {z rows : Nat → Int32} {sm th : Int32} (h : bRR rows sm []) : fX6_undo z rows sm th = some (0, z, sm, 1) := by
  unfold fX6_undo
  rw [h.n]
  rfl
theorem x_keep {d : Nat → Nat → Int32} {sl : Nat → Nat → Nat → Int32} {hn hs : Int32} {s : bSt} {H : List bSt} (hd : bRD d s) (h : bRH sl hn hs H) : bOk (fX1_keep d sl hn hs) fun r => bRH r.1 r.2.1 r.2.2 (bpush s H) := by
  have l6 := h.l6
  have hl := bpush_len s H
  obtain ⟨p, hp, e1, e2⟩ := h.r
  subst e1
  have ec : (iv p).toNatClampNeg = p := by rw [iv_idx (by omega) (by omega)]; omega
  unfold fX1_keep
  rw [ec, if_neg (by rw [show (0 : Int32) = iv 0 from rfl, iv_lt (by omega) (by omega) (by omega) (by omega)]; omega)]
  refine bOk_s ⟨?_, by omega, (p + 1) % 6, by omega, ?_, fun i hi => ?_⟩
  · show bw_min (hs + 1) 6 = _
    rw [h.n, iv_succ, show (6 : Int32) = iv 6 from rfl, iv_min (r32n (by omega)) (r32i (by omega) (by omega)), hl]
    congr 1
    omega
  · show (iv p + 1) - (iv p + 1) / 6 * 6 = _
    rw [iv_succ, show (6 : Int32) = iv 6 from rfl, iv_div (by omega) (by omega) (by omega) (by omega), iv_mul, iv_sub]
    congr 1
    omega
  · cases i with
    | zero =>
      rw [bpush_0]
      show bRD (va_up sl p (bw_cpD (sl p) d) (((p + 1) % 6 + 5 - 0) % 6)) s
      rw [show ((p + 1) % 6 + 5 - 0) % 6 = p by omega]
      show bRD (if p = p then bw_cpD (sl p) d else sl p) s
      rw [if_pos rfl]
      exact hd.cp
    | succ i =>
      obtain ⟨h', e5⟩ := bpush_s s H i hi
      rw [e5]
      show bRD (if ((p + 1) % 6 + 5 - (i + 1)) % 6 = p then bw_cpD (sl p) d else sl (((p + 1) % 6 + 5 - (i + 1)) % 6)) H[i]
      rw [if_neg (by omega), show ((p + 1) % 6 + 5 - (i + 1)) % 6 = (p + 5 - i) % 6 by omega]
      exact e2 i h'
theorem x_giveBack {d : Nat → Nat → Int32} {sl : Nat → Nat → Nat → Int32} {hn hs : Int32} {s : bSt} {H : List bSt} (h : bRH sl hn hs (s :: H)) : bOk (fX1_giveBack d sl hn hs) fun r => bRD r.1 s ∧ bRH sl r.2.1 r.2.2 H := by
  have l6 := h.l6
  rw [List.length_cons] at l6
  obtain ⟨p, hp, e1, e2⟩ := h.r
  subst e1
  have ek : (iv p + 6 - 1) - (iv p + 6 - 1) / 6 * 6 = iv (((p + 5) % 6 : Nat) : Int) := by
    rw [show (6 : Int32) = iv 6 from rfl, show (1 : Int32) = iv 1 from rfl, iv_add, iv_sub, iv_div (by omega) (by omega) (by omega) (by omega), iv_mul, iv_sub]
    congr 1
    omega
  have ec : (iv (((p + 5) % 6 : Nat) : Int)).toNatClampNeg = (p + 5) % 6 := by rw [iv_idx (by omega) (by omega)]; omega
  unfold fX1_giveBack
  rw [ek, bw_let_s, ec, if_neg (by rw [show (0 : Int32) = iv 0 from rfl, iv_lt (by omega) (by omega) (by omega) (by omega)]; omega)]
  refine bOk_s ⟨?_, ?_, by omega, (p + 5) % 6, by omega, rfl, fun i hi => ?_⟩
  · have := e2 0 (by simp)
    exact bRD.cp this
  · show bw_max (hs - 1) 0 = _
    rw [h.n, List.length_cons, show (1 : Int32) = iv 1 from rfl, iv_sub, show (0 : Int32) = iv 0 from rfl, iv_max (r32i (by omega) (by omega)) (r32i (by omega) (by omega))]
    congr 1
    omega
  · have := e2 (i + 1) (by simpa using hi)
    rw [show (p + 5 - (i + 1)) % 6 = ((p + 5) % 6 + 5 - i) % 6 by omega] at this
    exact this
