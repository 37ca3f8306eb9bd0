/- needs: 10_base -/
/-! ===== the pure part: definedness with a condition, and the abstract state ===== -/
theorem bw_let_s {α β : Type} (v : α) (f : α → β) : bw_let v f = f v := rfl
theorem iv_l0 : (0 : Int32) = iv 0 := rfl
theorem iv_castv (n : Nat) : (OfNat.ofNat n : Int32) = iv (n : Int) := Int32.ofInt_eq_ofNat.symm
theorem iv_cast (n : Nat) : (OfNat.ofNat n : Int32) = iv (OfNat.ofNat n : Int) := Int32.ofInt_eq_ofNat.symm
def r32 (x : Int) : Prop := -2147483648 ≤ x ∧ x < 2147483648
theorem ite_lt {α : Type} {a b : Int} {X Y : α} (ha : r32 a) (hb : r32 b) : (if iv a < iv b then X else Y) = if a < b then X else Y := by
  have := iv_lt ha.1 ha.2 hb.1 hb.2
  by_cases h : a < b <;> simp [h, this]
theorem ite_le {α : Type} {a b : Int} {X Y : α} (ha : r32 a) (hb : r32 b) : (if iv a ≤ iv b then X else Y) = if a ≤ b then X else Y := by
  have := iv_le ha.1 ha.2 hb.1 hb.2
  by_cases h : a ≤ b <;> simp [h, this]
theorem ite_iv {α : Type} {a b : Int} {X Y : α} (ha : r32 a) (hb : r32 b) : (if iv a = iv b then X else Y) = if a = b then X else Y := by
  have := iv_eq ha.1 ha.2 hb.1 hb.2
  by_cases h : a = b
  · subst h; simp
  · simp [h, this]
def bOk {α : Type} (x : Option α) (Q : α → Prop) : Prop := ∃ a, x = some a ∧ Q a
theorem bOk_s {α : Type} {Q : α → Prop} {a : α} (h : Q a) : bOk (some a) Q := ⟨a, rfl, h⟩
theorem bOk_m {α : Type} {x : Option α} {P Q : α → Prop} (h : bOk x P) (k : ∀ a, P a → Q a) : bOk x Q := by
  obtain ⟨a, h1, h2⟩ := h
  exact ⟨a, h1, k a h2⟩
theorem bOk_b1 {A β : Type} {x : Option A} {f : A → Option β} {P : A → Prop} {Q : β → Prop} (h : bOk x P) (k : ∀ a, P a → bOk (f a) Q) : bOk (bw_b1 x f) Q := by
  obtain ⟨a, h1, h2⟩ := h
  subst h1
  exact k a h2
theorem bOk_b2 {A B β : Type} {x : Option (A × B)} {f : A → B → Option β} {P : A × B → Prop} {Q : β → Prop} (h : bOk x P) (k : ∀ a b, P (a, b) → bOk (f a b) Q) : bOk (bw_b2 x f) Q := by
  obtain ⟨⟨a, b⟩, h1, h2⟩ := h
  subst h1
  exact k a b h2
theorem bOk_b3 {A B C β : Type} {x : Option (A × B × C)} {f : A → B → C → Option β} {P : A × B × C → Prop} {Q : β → Prop} (h : bOk x P) (k : ∀ a b c, P (a, b, c) → bOk (f a b c) Q) : bOk (bw_b3 x f) Q := by
  obtain ⟨⟨a, b, c⟩, h1, h2⟩ := h
  subst h1
  exact k a b c h2
theorem bOk_b4 {A B C D β : Type} {x : Option (A × B × C × D)} {f : A → B → C → D → Option β} {P : A × B × C × D → Prop} {Q : β → Prop} (h : bOk x P) (k : ∀ a b c d, P (a, b, c, d) → bOk (f a b c d) Q) : bOk (bw_b4 x f) Q := by
  obtain ⟨⟨a, b, c, d⟩, h1, h2⟩ := h
  subst h1
  exact k a b c d h2
theorem bOk_b5 {A B C D E β : Type} {x : Option (A × B × C × D × E)} {f : A → B → C → D → E → Option β} {P : A × B × C × D × E → Prop} {Q : β → Prop} (h : bOk x P) (k : ∀ a b c d e, P (a, b, c, d, e) → bOk (f a b c d e) Q) : bOk (bw_b5 x f) Q := by
  obtain ⟨⟨a, b, c, d, e⟩, h1, h2⟩ := h
  subst h1
  exact k a b c d e h2
theorem bOk_b6 {A B C D E F β : Type} {x : Option (A × B × C × D × E × F)} {f : A → B → C → D → E → F → Option β} {P : A × B × C × D × E × F → Prop} {Q : β → Prop} (h : bOk x P) (k : ∀ a b c d e g, P (a, b, c, d, e, g) → bOk (f a b c d e g) Q) : bOk (bw_b6 x f) Q := by
  obtain ⟨⟨a, b, c, d, e, g⟩, h1, h2⟩ := h
  subst h1
  exact k a b c d e g h2
theorem bOk_b7 {A B C D E F G β : Type} {x : Option (A × B × C × D × E × F × G)} {f : A → B → C → D → E → F → G → Option β} {P : A × B × C × D × E × F × G → Prop} {Q : β → Prop} (h : bOk x P) (k : ∀ a b c d e g i, P (a, b, c, d, e, g, i) → bOk (f a b c d e g i) Q) : bOk (bw_b7 x f) Q := by
  obtain ⟨⟨a, b, c, d, e, g, i⟩, h1, h2⟩ := h
  subst h1
  exact k a b c d e g i h2
theorem bOk_b9 {A B C D E F G H I β : Type} {x : Option (A × B × C × D × E × F × G × H × I)} {f : A → B → C → D → E → F → G → H → I → Option β} {P : A × B × C × D × E × F × G × H × I → Prop} {Q : β → Prop} (h : bOk x P) (k : ∀ a b c d e g i j l, P (a, b, c, d, e, g, i, j, l) → bOk (f a b c d e g i j l) Q) : bOk (bw_b9 x f) Q := by
  obtain ⟨⟨a, b, c, d, e, g, i, j, l⟩, h1, h2⟩ := h
  subst h1
  exact k a b c d e g i j l h2
/-- a loan: lender, borrower, days -/
abbrev bLn : Type := Nat × Nat × Int
/-- the state: projects (columns as in the reference's row; column 2, the days left, stands in F), loans, settings, days written off -/
abbrev bSt : Type := Nat × (Nat → Nat → Int) × (Nat → Int) × List bLn × (Nat → Int) × Int
def up1 (F : Nat → Int) (k : Nat) (v : Int) : Nat → Int := fun j => if j = k then v else F j
def up2 (P : Nat → Nat → Int) (k c : Nat) (v : Int) : Nat → Nat → Int := fun j e => if j = k ∧ e = c then v else P j e
theorem up1_self (F : Nat → Int) (k : Nat) (v : Int) : up1 F k v k = v := if_pos rfl
theorem up1_ne (F : Nat → Int) {k j : Nat} (v : Int) (h : j ≠ k) : up1 F k v j = F j := if_neg h
theorem up2_self (P : Nat → Nat → Int) (k c : Nat) (v : Int) : up2 P k c v k c = v := if_pos ⟨rfl, rfl⟩
theorem up2_c (P : Nat → Nat → Int) (k k' : Nat) {c c' : Nat} (v : Int) (h : c' ≠ c) : up2 P k c v k' c' = P k' c' := if_neg fun x => h x.2
theorem up2_k (P : Nat → Nat → Int) {k k' : Nat} (c c' : Nat) (v : Int) (h : k' ≠ k) : up2 P k c v k' c' = P k' c' := if_neg fun x => h x.1
theorem upd_self (f : Nat → Int32) (k : Nat) (x : Int32) : upd f k x k = x := if_pos rfl
theorem upd_ne (f : Nat → Int32) {k j : Nat} (x : Int32) (h : j ≠ k) : upd f k x j = f j := if_neg h
/-- the reference's row says the state -/
abbrev bRZ (z : Nat → Int32) (s : bSt) : Prop := (s.1 ≤ 6) ∧ (s.2.2.2.1.length ≤ 30) ∧ (z 0 = iv s.1) ∧ (z 1 = iv s.2.2.2.1.length) ∧ (z 2 = iv s.2.2.2.2.2) ∧ (∀ i : Nat, i < 3 → z (3 + i) = iv (s.2.2.2.2.1 i)) ∧ (∀ k : Nat, k < s.1 → z (6 + 58 * k + 2) = iv (s.2.2.1 k)) ∧ (∀ k c : Nat, k < s.1 → c < 58 → c ≠ 2 → z (6 + 58 * k + c) = iv (s.2.1 k c)) ∧ (∀ (i : Nat) (h : i < s.2.2.2.1.length), z (354 + 3 * i) = iv s.2.2.2.1[i].1) ∧ (∀ (i : Nat) (h : i < s.2.2.2.1.length), z (354 + 3 * i + 1) = iv s.2.2.2.1[i].2.1) ∧ (∀ (i : Nat) (h : i < s.2.2.2.1.length), z (354 + 3 * i + 2) = iv s.2.2.2.1[i].2.2)
theorem bRZ.n6 {z : Nat → Int32} {s : bSt} (h__ : bRZ z s) : s.1 ≤ 6 := h__.1
theorem bRZ.l30 {z : Nat → Int32} {s : bSt} (h__ : bRZ z s) : s.2.2.2.1.length ≤ 30 := h__.2.1
theorem bRZ.z0 {z : Nat → Int32} {s : bSt} (h__ : bRZ z s) : z 0 = iv s.1 := h__.2.2.1
theorem bRZ.z1 {z : Nat → Int32} {s : bSt} (h__ : bRZ z s) : z 1 = iv s.2.2.2.1.length := h__.2.2.2.1
theorem bRZ.z2 {z : Nat → Int32} {s : bSt} (h__ : bRZ z s) : z 2 = iv s.2.2.2.2.2 := h__.2.2.2.2.1
theorem bRZ.zS {z : Nat → Int32} {s : bSt} (h__ : bRZ z s) : ∀ i : Nat, i < 3 → z (3 + i) = iv (s.2.2.2.2.1 i) := h__.2.2.2.2.2.1
theorem bRZ.zF {z : Nat → Int32} {s : bSt} (h__ : bRZ z s) : ∀ k : Nat, k < s.1 → z (6 + 58 * k + 2) = iv (s.2.2.1 k) := h__.2.2.2.2.2.2.1
theorem bRZ.zP {z : Nat → Int32} {s : bSt} (h__ : bRZ z s) : ∀ k c : Nat, k < s.1 → c < 58 → c ≠ 2 → z (6 + 58 * k + c) = iv (s.2.1 k c) := h__.2.2.2.2.2.2.2.1
theorem bRZ.zA {z : Nat → Int32} {s : bSt} (h__ : bRZ z s) : ∀ (i : Nat) (h : i < s.2.2.2.1.length), z (354 + 3 * i) = iv s.2.2.2.1[i].1 := h__.2.2.2.2.2.2.2.2.1
theorem bRZ.zB {z : Nat → Int32} {s : bSt} (h__ : bRZ z s) : ∀ (i : Nat) (h : i < s.2.2.2.1.length), z (354 + 3 * i + 1) = iv s.2.2.2.1[i].2.1 := h__.2.2.2.2.2.2.2.2.2.1
theorem bRZ.zD {z : Nat → Int32} {s : bSt} (h__ : bRZ z s) : ∀ (i : Nat) (h : i < s.2.2.2.1.length), z (354 + 3 * i + 2) = iv s.2.2.2.1[i].2.2 := h__.2.2.2.2.2.2.2.2.2.2
theorem bZ_rd {z : Nat → Int32} {e : Int} {i : Nat} (h1 : e = i) (h2 : i < 444) : bw_rd 444 z (iv e) = some (z i) := by
  subst h1
  rw [iv_rd (by omega) (by omega) (by omega)]
  rfl
theorem bZ_wr {z : Nat → Int32} {e : Int} {i : Nat} {x : Int32} (h1 : e = i) (h2 : i < 444) : bw_wr 444 z (iv e) x = some (upd z i x) := by
  subst h1
  rw [iv_wr (by omega) (by omega) (by omega)]
  rfl
section
variable {z : Nat → Int32} {s : bSt}
theorem bRZ.r0 (h : bRZ z s) : bw_rd 444 z 0 = some (iv s.1) := by rw [← h.z0]; exact bZ_rd (i := 0) rfl (by omega)
theorem bRZ.r1 (h : bRZ z s) : bw_rd 444 z 1 = some (iv s.2.2.2.1.length) := by rw [← h.z1]; exact bZ_rd (i := 1) rfl (by omega)
theorem bRZ.r2 (h : bRZ z s) : bw_rd 444 z 2 = some (iv s.2.2.2.2.2) := by rw [← h.z2]; exact bZ_rd (i := 2) rfl (by omega)
theorem bRZ.rS0 (h : bRZ z s) : bw_rd 444 z 3 = some (iv (s.2.2.2.2.1 0)) := by rw [← h.zS 0 (by omega)]; exact bZ_rd (i := 3) rfl (by omega)
theorem bRZ.rS1 (h : bRZ z s) : bw_rd 444 z 4 = some (iv (s.2.2.2.2.1 1)) := by rw [← h.zS 1 (by omega)]; exact bZ_rd (i := 4) rfl (by omega)
theorem bRZ.rS2 (h : bRZ z s) : bw_rd 444 z 5 = some (iv (s.2.2.2.2.1 2)) := by rw [← h.zS 2 (by omega)]; exact bZ_rd (i := 5) rfl (by omega)
theorem bRZ.rS (h : bRZ z s) {i : Nat} (hi : i < 3) : bw_rd 444 z (3 + iv i) = some (iv (s.2.2.2.2.1 i)) := by
  rw [← h.zS i hi, iv_cast, iv_add]; exact bZ_rd (by omega) (by omega)
theorem bRZ.rF (h : bRZ z s) {k : Nat} (hk : k < s.1) : bw_rd 444 z (6 + 58 * iv k + 2) = some (iv (s.2.2.1 k)) := by
  have := h.n6
  rw [← h.zF k hk]; simp only [iv_cast, iv_add, iv_mul]; exact bZ_rd (by omega) (by omega)
theorem bRZ.rK (h : bRZ z s) {k : Nat} (hk : k < s.1) : bw_rd 444 z (6 + 58 * iv k) = some (iv (s.2.1 k 0)) := by
  have := h.n6
  rw [← h.zP k 0 hk (by omega) (by omega)]; simp only [iv_cast, iv_add, iv_mul]; exact bZ_rd (by omega) (by omega)
theorem bRZ.rP (h : bRZ z s) {k : Nat} (hk : k < s.1) (c : Nat) (hc : c < 58) (hc2 : c ≠ 2) : bw_rd 444 z (6 + 58 * iv k + OfNat.ofNat c) = some (iv (s.2.1 k c)) := by
  have := h.n6
  rw [← h.zP k c hk hc hc2, iv_castv c]; simp only [iv_cast, iv_add, iv_mul]; exact bZ_rd (by omega) (by omega)
theorem bRZ.rT (h : bRZ z s) {k : Nat} (hk : k < s.1) (c : Nat) {t : Nat} (hc : c + t < 58) (hc2 : c + t ≠ 2) : bw_rd 444 z (6 + 58 * iv k + OfNat.ofNat c + iv t) = some (iv (s.2.1 k (c + t))) := by
  have := h.n6
  rw [← h.zP k (c + t) hk hc hc2, iv_castv c]; simp only [iv_cast, iv_add, iv_mul]; exact bZ_rd (by omega) (by omega)
theorem bRZ.rA (h : bRZ z s) {i : Nat} (hi : i < s.2.2.2.1.length) : bw_rd 444 z (354 + 3 * iv i) = some (iv s.2.2.2.1[i].1) := by
  have := h.l30
  rw [← h.zA i hi]; simp only [iv_cast, iv_add, iv_mul]; exact bZ_rd (by omega) (by omega)
theorem bRZ.rB (h : bRZ z s) {i : Nat} (hi : i < s.2.2.2.1.length) : bw_rd 444 z (354 + 3 * iv i + 1) = some (iv s.2.2.2.1[i].2.1) := by
  have := h.l30
  rw [← h.zB i hi]; simp only [iv_cast, iv_add, iv_mul]; exact bZ_rd (by omega) (by omega)
theorem bRZ.rD (h : bRZ z s) {i : Nat} (hi : i < s.2.2.2.1.length) : bw_rd 444 z (354 + 3 * iv i + 2) = some (iv s.2.2.2.1[i].2.2) := by
  have := h.l30
  rw [← h.zD i hi]; simp only [iv_cast, iv_add, iv_mul]; exact bZ_rd (by omega) (by omega)
end
