/- needs: 10_base 11_kit -/
/-! ===== writes into the reference's row ===== -/
section
variable {z : Nat → Int32} {s : bSt}
theorem bRZ.uF (h : bRZ z s) {k : Nat} (hk : k < s.1) (v : Int) : bRZ (upd z (6 + 58 * k + 2) (iv v)) (s.1, s.2.1, up1 s.2.2.1 k v, s.2.2.2.1, s.2.2.2.2.1, s.2.2.2.2.2) := by
  have n6 := h.n6
  have l30 := h.l30
  refine ⟨h.n6, h.l30, ?_, ?_, ?_, fun i hi => ?_, fun k' hk' => ?_, fun k' c' hk' hc' hc2 => ?_, fun i hi => ?_, fun i hi => ?_, fun i hi => ?_⟩ <;> dsimp only at *
  · rw [upd_ne _ _ (by omega)]; exact h.z0
  · rw [upd_ne _ _ (by omega)]; exact h.z1
  · rw [upd_ne _ _ (by omega)]; exact h.z2
  · rw [upd_ne _ _ (by omega)]; exact h.zS i hi
  · by_cases e : k' = k
    · subst e; rw [upd_self, up1_self]
    · rw [upd_ne _ _ (by omega), up1_ne _ _ e]; exact h.zF k' hk'
  · rw [upd_ne _ _ (by omega)]; exact h.zP k' c' hk' hc' hc2
  · rw [upd_ne _ _ (by omega)]; exact h.zA i hi
  · rw [upd_ne _ _ (by omega)]; exact h.zB i hi
  · rw [upd_ne _ _ (by omega)]; exact h.zD i hi
theorem bRZ.uP (h : bRZ z s) {k c : Nat} (hk : k < s.1) (hc : c < 58) (hc2 : c ≠ 2) (v : Int) : bRZ (upd z (6 + 58 * k + c) (iv v)) (s.1, up2 s.2.1 k c v, s.2.2.1, s.2.2.2.1, s.2.2.2.2.1, s.2.2.2.2.2) := by
  have n6 := h.n6
  have l30 := h.l30
  refine ⟨h.n6, h.l30, ?_, ?_, ?_, fun i hi => ?_, fun k' hk' => ?_, fun k' c' hk' hc' hc2' => ?_, fun i hi => ?_, fun i hi => ?_, fun i hi => ?_⟩ <;> dsimp only at *
  · rw [upd_ne _ _ (by omega)]; exact h.z0
  · rw [upd_ne _ _ (by omega)]; exact h.z1
  · rw [upd_ne _ _ (by omega)]; exact h.z2
  · rw [upd_ne _ _ (by omega)]; exact h.zS i hi
  · rw [upd_ne _ _ (by omega)]; exact h.zF k' hk'
  · by_cases e : k' = k
    · subst e
      by_cases e2 : c' = c
      · subst e2; rw [upd_self, up2_self]
      · rw [upd_ne _ _ (by omega), up2_c _ _ _ _ e2]; exact h.zP k' c' hk' hc' hc2'
    · rw [upd_ne _ _ (by omega), up2_k _ _ _ _ e]; exact h.zP k' c' hk' hc' hc2'
  · rw [upd_ne _ _ (by omega)]; exact h.zA i hi
  · rw [upd_ne _ _ (by omega)]; exact h.zB i hi
  · rw [upd_ne _ _ (by omega)]; exact h.zD i hi
theorem bRZ.uS (h : bRZ z s) {j : Nat} (hj : j < 3) (v : Int) : bRZ (upd z (3 + j) (iv v)) (s.1, s.2.1, s.2.2.1, s.2.2.2.1, up1 s.2.2.2.2.1 j v, s.2.2.2.2.2) := by
  have n6 := h.n6
  have l30 := h.l30
  refine ⟨h.n6, h.l30, ?_, ?_, ?_, fun i hi => ?_, fun k' hk' => ?_, fun k' c' hk' hc' hc2' => ?_, fun i hi => ?_, fun i hi => ?_, fun i hi => ?_⟩ <;> dsimp only at *
  · rw [upd_ne _ _ (by omega)]; exact h.z0
  · rw [upd_ne _ _ (by omega)]; exact h.z1
  · rw [upd_ne _ _ (by omega)]; exact h.z2
  · by_cases e : i = j
    · subst e; rw [upd_self, up1_self]
    · rw [upd_ne _ _ (by omega), up1_ne _ _ e]; exact h.zS i hi
  · rw [upd_ne _ _ (by omega)]; exact h.zF k' hk'
  · rw [upd_ne _ _ (by omega)]; exact h.zP k' c' hk' hc' hc2'
  · rw [upd_ne _ _ (by omega)]; exact h.zA i hi
  · rw [upd_ne _ _ (by omega)]; exact h.zB i hi
  · rw [upd_ne _ _ (by omega)]; exact h.zD i hi
theorem bRZ.u2 (h : bRZ z s) (v : Int) : bRZ (upd z 2 (iv v)) (s.1, s.2.1, s.2.2.1, s.2.2.2.1, s.2.2.2.2.1, v) := by
  have n6 := h.n6
  have l30 := h.l30
  refine ⟨h.n6, h.l30, ?_, ?_, ?_, fun i hi => ?_, fun k' hk' => ?_, fun k' c' hk' hc' hc2' => ?_, fun i hi => ?_, fun i hi => ?_, fun i hi => ?_⟩ <;> dsimp only at *
  · rw [upd_ne _ _ (by omega)]; exact h.z0
  · rw [upd_ne _ _ (by omega)]; exact h.z1
  · rw [upd_self]
  · rw [upd_ne _ _ (by omega)]; exact h.zS i hi
  · rw [upd_ne _ _ (by omega)]; exact h.zF k' hk'
  · rw [upd_ne _ _ (by omega)]; exact h.zP k' c' hk' hc' hc2'
  · rw [upd_ne _ _ (by omega)]; exact h.zA i hi
  · rw [upd_ne _ _ (by omega)]; exact h.zB i hi
  · rw [upd_ne _ _ (by omega)]; exact h.zD i hi
theorem bRZ.uD (h : bRZ z s) {j : Nat} (hj : j < s.2.2.2.1.length) (v : Int) : bRZ (upd z (354 + 3 * j + 2) (iv v)) (s.1, s.2.1, s.2.2.1, s.2.2.2.1.set j (s.2.2.2.1[j].1, s.2.2.2.1[j].2.1, v), s.2.2.2.2.1, s.2.2.2.2.2) := by
  have n6 := h.n6
  have l30 := h.l30
  refine ⟨h.n6, by simpa using h.l30, ?_, ?_, ?_, fun i hi => ?_, fun k' hk' => ?_, fun k' c' hk' hc' hc2' => ?_, fun i hi => ?_, fun i hi => ?_, fun i hi => ?_⟩ <;> dsimp only at *
  · rw [upd_ne _ _ (by omega)]; exact h.z0
  · rw [upd_ne _ _ (by omega), List.length_set]; exact h.z1
  · rw [upd_ne _ _ (by omega)]; exact h.z2
  · rw [upd_ne _ _ (by omega)]; exact h.zS i hi
  · rw [upd_ne _ _ (by omega)]; exact h.zF k' hk'
  · rw [upd_ne _ _ (by omega)]; exact h.zP k' c' hk' hc' hc2'
  all_goals rw [List.length_set] at hi
  all_goals rw [List.getElem_set]
  · rw [upd_ne _ _ (by omega), h.zA i hi]
    split
    · rename_i e; subst e; rfl
    · rfl
  · rw [upd_ne _ _ (by omega), h.zB i hi]
    split
    · rename_i e; subst e; rfl
    · rfl
  · by_cases e : j = i
    · subst e; rw [upd_self, if_pos rfl]
    · rw [upd_ne _ _ (by omega), if_neg e]; exact h.zD i hi
theorem bRZ.wF (h : bRZ z s) {k : Nat} (hk : k < s.1) (v : Int) : bOk (bw_wr 444 z (6 + 58 * iv k + 2) (iv v)) fun z' => bRZ z' (s.1, s.2.1, up1 s.2.2.1 k v, s.2.2.2.1, s.2.2.2.2.1, s.2.2.2.2.2) := by
  have n6 := h.n6
  refine ⟨_, ?_, h.uF hk v⟩
  simp only [iv_cast, iv_add, iv_mul]; exact bZ_wr (by omega) (by omega)
theorem bRZ.wK (h : bRZ z s) {k : Nat} (hk : k < s.1) (v : Int) : bOk (bw_wr 444 z (6 + 58 * iv k) (iv v)) fun z' => bRZ z' (s.1, up2 s.2.1 k 0 v, s.2.2.1, s.2.2.2.1, s.2.2.2.2.1, s.2.2.2.2.2) := by
  have n6 := h.n6
  refine ⟨_, ?_, h.uP hk (c := 0) (by omega) (by omega) v⟩
  simp only [iv_cast, iv_add, iv_mul]; exact bZ_wr (by omega) (by omega)
theorem bRZ.wP (h : bRZ z s) {k : Nat} (hk : k < s.1) (c : Nat) (hc : c < 58) (hc2 : c ≠ 2) (v : Int) : bOk (bw_wr 444 z (6 + 58 * iv k + OfNat.ofNat c) (iv v)) fun z' => bRZ z' (s.1, up2 s.2.1 k c v, s.2.2.1, s.2.2.2.1, s.2.2.2.2.1, s.2.2.2.2.2) := by
  have n6 := h.n6
  refine ⟨_, ?_, h.uP hk hc hc2 v⟩
  rw [iv_castv c]; simp only [iv_cast, iv_add, iv_mul]; exact bZ_wr (by omega) (by omega)
theorem bRZ.wT (h : bRZ z s) {k : Nat} (hk : k < s.1) (c : Nat) {t : Nat} (hc : c + t < 58) (hc2 : c + t ≠ 2) (v : Int) : bOk (bw_wr 444 z (6 + 58 * iv k + OfNat.ofNat c + iv t) (iv v)) fun z' => bRZ z' (s.1, up2 s.2.1 k (c + t) v, s.2.2.1, s.2.2.2.1, s.2.2.2.2.1, s.2.2.2.2.2) := by
  have n6 := h.n6
  refine ⟨_, ?_, h.uP hk hc hc2 v⟩
  rw [iv_castv c]; simp only [iv_cast, iv_add, iv_mul]; exact bZ_wr (by omega) (by omega)
theorem bRZ.wC0 (h : bRZ z s) {k : Nat} (hk : k < s.1) {t : Nat} (ht : t < 8) (v : Int) : bOk (bw_wr 444 z (6 + 58 * iv k + 26 + 4 * iv t) (iv v)) fun z' => bRZ z' (s.1, up2 s.2.1 k (26 + 4 * t) v, s.2.2.1, s.2.2.2.1, s.2.2.2.2.1, s.2.2.2.2.2) := by
  have n6 := h.n6
  refine ⟨_, ?_, h.uP hk (c := 26 + 4 * t) (by omega) (by omega) v⟩
  simp only [iv_cast, iv_add, iv_mul]; exact bZ_wr (by omega) (by omega)
theorem bRZ.wC (h : bRZ z s) {k : Nat} (hk : k < s.1) {t : Nat} (ht : t < 8) (i : Nat) (hi : i < 4) (v : Int) : bOk (bw_wr 444 z (6 + 58 * iv k + 26 + 4 * iv t + OfNat.ofNat i) (iv v)) fun z' => bRZ z' (s.1, up2 s.2.1 k (26 + 4 * t + i) v, s.2.2.1, s.2.2.2.1, s.2.2.2.2.1, s.2.2.2.2.2) := by
  have n6 := h.n6
  refine ⟨_, ?_, h.uP hk (c := 26 + 4 * t + i) (by omega) (by omega) v⟩
  rw [iv_castv i]; simp only [iv_cast, iv_add, iv_mul]; exact bZ_wr (by omega) (by omega)
theorem bRZ.wS (h : bRZ z s) {j : Nat} (hj : j < 3) (v : Int) : bOk (bw_wr 444 z (3 + iv j) (iv v)) fun z' => bRZ z' (s.1, s.2.1, s.2.2.1, s.2.2.2.1, up1 s.2.2.2.2.1 j v, s.2.2.2.2.2) := by
  refine ⟨_, ?_, h.uS hj v⟩
  simp only [iv_cast, iv_add, iv_mul]; exact bZ_wr (by omega) (by omega)
theorem bRZ.wS0 (h : bRZ z s) (v : Int) : bOk (bw_wr 444 z 3 (iv v)) fun z' => bRZ z' (s.1, s.2.1, s.2.2.1, s.2.2.2.1, up1 s.2.2.2.2.1 0 v, s.2.2.2.2.2) := by
  refine ⟨_, ?_, h.uS (j := 0) (by omega) v⟩
  simp only [iv_cast, iv_add, iv_mul]; exact bZ_wr (by omega) (by omega)
theorem bRZ.w2 (h : bRZ z s) (v : Int) : bOk (bw_wr 444 z 2 (iv v)) fun z' => bRZ z' (s.1, s.2.1, s.2.2.1, s.2.2.2.1, s.2.2.2.2.1, v) := by
  refine ⟨_, ?_, h.u2 v⟩
  simp only [iv_cast, iv_add, iv_mul]; exact bZ_wr (by omega) (by omega)
theorem bRZ.wD (h : bRZ z s) {j : Nat} (hj : j < s.2.2.2.1.length) (v : Int) : bOk (bw_wr 444 z (354 + 3 * iv j + 2) (iv v)) fun z' => bRZ z' (s.1, s.2.1, s.2.2.1, s.2.2.2.1.set j (s.2.2.2.1[j].1, s.2.2.2.1[j].2.1, v), s.2.2.2.2.1, s.2.2.2.2.2) := by
  have l30 := h.l30
  refine ⟨_, ?_, h.uD hj v⟩
  simp only [iv_cast, iv_add, iv_mul]; exact bZ_wr (by omega) (by omega)
end
