/-! ===== combinators of the printed functions, and the worlds of the classes ===== -/
abbrev bw_A1 : Type := Nat → Int32
abbrev bw_A2 : Type := Nat → Nat → Int32
abbrev bw_A3 : Type := Nat → Nat → Nat → Int32
def bw_b1 {A0 β : Type} (x : Option (A0)) (f : A0 → Option β) : Option β := x.bind fun r => f r
theorem bw_b1_e {A0 β : Type} {x : Option (A0)} {f : A0 → Option β} {r : β} (h : bw_b1 x f = some r) : ∃ a0, x = some a0 ∧ f a0 = some r := by
  exact Option.bind_eq_some_iff.mp h
theorem bw_b1_s {A0 β : Type} {f : A0 → Option β} (a0 : A0) : bw_b1 (some a0) f = f a0 := rfl
def bw_b2 {A0 A1 β : Type} (x : Option (A0 × A1)) (f : A0 → A1 → Option β) : Option β := x.bind fun r => f (r.1) (r.2)
theorem bw_b2_e {A0 A1 β : Type} {x : Option (A0 × A1)} {f : A0 → A1 → Option β} {r : β} (h : bw_b2 x f = some r) : ∃ a0 a1, x = some (a0, a1) ∧ f a0 a1 = some r := by
  obtain ⟨⟨a0, a1⟩, h1, h2⟩ := Option.bind_eq_some_iff.mp h
  exact ⟨a0, a1, h1, h2⟩
theorem bw_b2_s {A0 A1 β : Type} {f : A0 → A1 → Option β} (a0 : A0) (a1 : A1) : bw_b2 (some (a0, a1)) f = f a0 a1 := rfl
def bw_b3 {A0 A1 A2 β : Type} (x : Option (A0 × A1 × A2)) (f : A0 → A1 → A2 → Option β) : Option β := x.bind fun r => f (r.1) (r.2.1) (r.2.2)
theorem bw_b3_e {A0 A1 A2 β : Type} {x : Option (A0 × A1 × A2)} {f : A0 → A1 → A2 → Option β} {r : β} (h : bw_b3 x f = some r) : ∃ a0 a1 a2, x = some (a0, a1, a2) ∧ f a0 a1 a2 = some r := by
  obtain ⟨⟨a0, a1, a2⟩, h1, h2⟩ := Option.bind_eq_some_iff.mp h
  exact ⟨a0, a1, a2, h1, h2⟩
theorem bw_b3_s {A0 A1 A2 β : Type} {f : A0 → A1 → A2 → Option β} (a0 : A0) (a1 : A1) (a2 : A2) : bw_b3 (some (a0, a1, a2)) f = f a0 a1 a2 := rfl
def bw_b4 {A0 A1 A2 A3 β : Type} (x : Option (A0 × A1 × A2 × A3)) (f : A0 → A1 → A2 → A3 → Option β) : Option β := x.bind fun r => f (r.1) (r.2.1) (r.2.2.1) (r.2.2.2)
theorem bw_b4_e {A0 A1 A2 A3 β : Type} {x : Option (A0 × A1 × A2 × A3)} {f : A0 → A1 → A2 → A3 → Option β} {r : β} (h : bw_b4 x f = some r) : ∃ a0 a1 a2 a3, x = some (a0, a1, a2, a3) ∧ f a0 a1 a2 a3 = some r := by
  obtain ⟨⟨a0, a1, a2, a3⟩, h1, h2⟩ := Option.bind_eq_some_iff.mp h
  exact ⟨a0, a1, a2, a3, h1, h2⟩
theorem bw_b4_s {A0 A1 A2 A3 β : Type} {f : A0 → A1 → A2 → A3 → Option β} (a0 : A0) (a1 : A1) (a2 : A2) (a3 : A3) : bw_b4 (some (a0, a1, a2, a3)) f = f a0 a1 a2 a3 := rfl
def bw_b5 {A0 A1 A2 A3 A4 β : Type} (x : Option (A0 × A1 × A2 × A3 × A4)) (f : A0 → A1 → A2 → A3 → A4 → Option β) : Option β := x.bind fun r => f (r.1) (r.2.1) (r.2.2.1) (r.2.2.2.1) (r.2.2.2.2)
theorem bw_b5_e {A0 A1 A2 A3 A4 β : Type} {x : Option (A0 × A1 × A2 × A3 × A4)} {f : A0 → A1 → A2 → A3 → A4 → Option β} {r : β} (h : bw_b5 x f = some r) : ∃ a0 a1 a2 a3 a4, x = some (a0, a1, a2, a3, a4) ∧ f a0 a1 a2 a3 a4 = some r := by
  obtain ⟨⟨a0, a1, a2, a3, a4⟩, h1, h2⟩ := Option.bind_eq_some_iff.mp h
  exact ⟨a0, a1, a2, a3, a4, h1, h2⟩
theorem bw_b5_s {A0 A1 A2 A3 A4 β : Type} {f : A0 → A1 → A2 → A3 → A4 → Option β} (a0 : A0) (a1 : A1) (a2 : A2) (a3 : A3) (a4 : A4) : bw_b5 (some (a0, a1, a2, a3, a4)) f = f a0 a1 a2 a3 a4 := rfl
def bw_b6 {A0 A1 A2 A3 A4 A5 β : Type} (x : Option (A0 × A1 × A2 × A3 × A4 × A5)) (f : A0 → A1 → A2 → A3 → A4 → A5 → Option β) : Option β := x.bind fun r => f (r.1) (r.2.1) (r.2.2.1) (r.2.2.2.1) (r.2.2.2.2.1) (r.2.2.2.2.2)
theorem bw_b6_e {A0 A1 A2 A3 A4 A5 β : Type} {x : Option (A0 × A1 × A2 × A3 × A4 × A5)} {f : A0 → A1 → A2 → A3 → A4 → A5 → Option β} {r : β} (h : bw_b6 x f = some r) : ∃ a0 a1 a2 a3 a4 a5, x = some (a0, a1, a2, a3, a4, a5) ∧ f a0 a1 a2 a3 a4 a5 = some r := by
  obtain ⟨⟨a0, a1, a2, a3, a4, a5⟩, h1, h2⟩ := Option.bind_eq_some_iff.mp h
  exact ⟨a0, a1, a2, a3, a4, a5, h1, h2⟩
theorem bw_b6_s {A0 A1 A2 A3 A4 A5 β : Type} {f : A0 → A1 → A2 → A3 → A4 → A5 → Option β} (a0 : A0) (a1 : A1) (a2 : A2) (a3 : A3) (a4 : A4) (a5 : A5) : bw_b6 (some (a0, a1, a2, a3, a4, a5)) f = f a0 a1 a2 a3 a4 a5 := rfl
def bw_b7 {A0 A1 A2 A3 A4 A5 A6 β : Type} (x : Option (A0 × A1 × A2 × A3 × A4 × A5 × A6)) (f : A0 → A1 → A2 → A3 → A4 → A5 → A6 → Option β) : Option β := x.bind fun r => f (r.1) (r.2.1) (r.2.2.1) (r.2.2.2.1) (r.2.2.2.2.1) (r.2.2.2.2.2.1) (r.2.2.2.2.2.2)
theorem bw_b7_e {A0 A1 A2 A3 A4 A5 A6 β : Type} {x : Option (A0 × A1 × A2 × A3 × A4 × A5 × A6)} {f : A0 → A1 → A2 → A3 → A4 → A5 → A6 → Option β} {r : β} (h : bw_b7 x f = some r) : ∃ a0 a1 a2 a3 a4 a5 a6, x = some (a0, a1, a2, a3, a4, a5, a6) ∧ f a0 a1 a2 a3 a4 a5 a6 = some r := by
  obtain ⟨⟨a0, a1, a2, a3, a4, a5, a6⟩, h1, h2⟩ := Option.bind_eq_some_iff.mp h
  exact ⟨a0, a1, a2, a3, a4, a5, a6, h1, h2⟩
theorem bw_b7_s {A0 A1 A2 A3 A4 A5 A6 β : Type} {f : A0 → A1 → A2 → A3 → A4 → A5 → A6 → Option β} (a0 : A0) (a1 : A1) (a2 : A2) (a3 : A3) (a4 : A4) (a5 : A5) (a6 : A6) : bw_b7 (some (a0, a1, a2, a3, a4, a5, a6)) f = f a0 a1 a2 a3 a4 a5 a6 := rfl
def bw_b8 {A0 A1 A2 A3 A4 A5 A6 A7 β : Type} (x : Option (A0 × A1 × A2 × A3 × A4 × A5 × A6 × A7)) (f : A0 → A1 → A2 → A3 → A4 → A5 → A6 → A7 → Option β) : Option β := x.bind fun r => f (r.1) (r.2.1) (r.2.2.1) (r.2.2.2.1) (r.2.2.2.2.1) (r.2.2.2.2.2.1) (r.2.2.2.2.2.2.1) (r.2.2.2.2.2.2.2)
theorem bw_b8_e {A0 A1 A2 A3 A4 A5 A6 A7 β : Type} {x : Option (A0 × A1 × A2 × A3 × A4 × A5 × A6 × A7)} {f : A0 → A1 → A2 → A3 → A4 → A5 → A6 → A7 → Option β} {r : β} (h : bw_b8 x f = some r) : ∃ a0 a1 a2 a3 a4 a5 a6 a7, x = some (a0, a1, a2, a3, a4, a5, a6, a7) ∧ f a0 a1 a2 a3 a4 a5 a6 a7 = some r := by
  obtain ⟨⟨a0, a1, a2, a3, a4, a5, a6, a7⟩, h1, h2⟩ := Option.bind_eq_some_iff.mp h
  exact ⟨a0, a1, a2, a3, a4, a5, a6, a7, h1, h2⟩
theorem bw_b8_s {A0 A1 A2 A3 A4 A5 A6 A7 β : Type} {f : A0 → A1 → A2 → A3 → A4 → A5 → A6 → A7 → Option β} (a0 : A0) (a1 : A1) (a2 : A2) (a3 : A3) (a4 : A4) (a5 : A5) (a6 : A6) (a7 : A7) : bw_b8 (some (a0, a1, a2, a3, a4, a5, a6, a7)) f = f a0 a1 a2 a3 a4 a5 a6 a7 := rfl
def bw_b9 {A0 A1 A2 A3 A4 A5 A6 A7 A8 β : Type} (x : Option (A0 × A1 × A2 × A3 × A4 × A5 × A6 × A7 × A8)) (f : A0 → A1 → A2 → A3 → A4 → A5 → A6 → A7 → A8 → Option β) : Option β := x.bind fun r => f (r.1) (r.2.1) (r.2.2.1) (r.2.2.2.1) (r.2.2.2.2.1) (r.2.2.2.2.2.1) (r.2.2.2.2.2.2.1) (r.2.2.2.2.2.2.2.1) (r.2.2.2.2.2.2.2.2)
theorem bw_b9_e {A0 A1 A2 A3 A4 A5 A6 A7 A8 β : Type} {x : Option (A0 × A1 × A2 × A3 × A4 × A5 × A6 × A7 × A8)} {f : A0 → A1 → A2 → A3 → A4 → A5 → A6 → A7 → A8 → Option β} {r : β} (h : bw_b9 x f = some r) : ∃ a0 a1 a2 a3 a4 a5 a6 a7 a8, x = some (a0, a1, a2, a3, a4, a5, a6, a7, a8) ∧ f a0 a1 a2 a3 a4 a5 a6 a7 a8 = some r := by
  obtain ⟨⟨a0, a1, a2, a3, a4, a5, a6, a7, a8⟩, h1, h2⟩ := Option.bind_eq_some_iff.mp h
  exact ⟨a0, a1, a2, a3, a4, a5, a6, a7, a8, h1, h2⟩
theorem bw_b9_s {A0 A1 A2 A3 A4 A5 A6 A7 A8 β : Type} {f : A0 → A1 → A2 → A3 → A4 → A5 → A6 → A7 → A8 → Option β} (a0 : A0) (a1 : A1) (a2 : A2) (a3 : A3) (a4 : A4) (a5 : A5) (a6 : A6) (a7 : A7) (a8 : A8) : bw_b9 (some (a0, a1, a2, a3, a4, a5, a6, a7, a8)) f = f a0 a1 a2 a3 a4 a5 a6 a7 a8 := rfl
def bw_b10 {A0 A1 A2 A3 A4 A5 A6 A7 A8 A9 β : Type} (x : Option (A0 × A1 × A2 × A3 × A4 × A5 × A6 × A7 × A8 × A9)) (f : A0 → A1 → A2 → A3 → A4 → A5 → A6 → A7 → A8 → A9 → Option β) : Option β := x.bind fun r => f (r.1) (r.2.1) (r.2.2.1) (r.2.2.2.1) (r.2.2.2.2.1) (r.2.2.2.2.2.1) (r.2.2.2.2.2.2.1) (r.2.2.2.2.2.2.2.1) (r.2.2.2.2.2.2.2.2.1) (r.2.2.2.2.2.2.2.2.2)
theorem bw_b10_e {A0 A1 A2 A3 A4 A5 A6 A7 A8 A9 β : Type} {x : Option (A0 × A1 × A2 × A3 × A4 × A5 × A6 × A7 × A8 × A9)} {f : A0 → A1 → A2 → A3 → A4 → A5 → A6 → A7 → A8 → A9 → Option β} {r : β} (h : bw_b10 x f = some r) : ∃ a0 a1 a2 a3 a4 a5 a6 a7 a8 a9, x = some (a0, a1, a2, a3, a4, a5, a6, a7, a8, a9) ∧ f a0 a1 a2 a3 a4 a5 a6 a7 a8 a9 = some r := by
  obtain ⟨⟨a0, a1, a2, a3, a4, a5, a6, a7, a8, a9⟩, h1, h2⟩ := Option.bind_eq_some_iff.mp h
  exact ⟨a0, a1, a2, a3, a4, a5, a6, a7, a8, a9, h1, h2⟩
theorem bw_b10_s {A0 A1 A2 A3 A4 A5 A6 A7 A8 A9 β : Type} {f : A0 → A1 → A2 → A3 → A4 → A5 → A6 → A7 → A8 → A9 → Option β} (a0 : A0) (a1 : A1) (a2 : A2) (a3 : A3) (a4 : A4) (a5 : A5) (a6 : A6) (a7 : A7) (a8 : A8) (a9 : A9) : bw_b10 (some (a0, a1, a2, a3, a4, a5, a6, a7, a8, a9)) f = f a0 a1 a2 a3 a4 a5 a6 a7 a8 a9 := rfl
def bw_b11 {A0 A1 A2 A3 A4 A5 A6 A7 A8 A9 A10 β : Type} (x : Option (A0 × A1 × A2 × A3 × A4 × A5 × A6 × A7 × A8 × A9 × A10)) (f : A0 → A1 → A2 → A3 → A4 → A5 → A6 → A7 → A8 → A9 → A10 → Option β) : Option β := x.bind fun r => f (r.1) (r.2.1) (r.2.2.1) (r.2.2.2.1) (r.2.2.2.2.1) (r.2.2.2.2.2.1) (r.2.2.2.2.2.2.1) (r.2.2.2.2.2.2.2.1) (r.2.2.2.2.2.2.2.2.1) (r.2.2.2.2.2.2.2.2.2.1) (r.2.2.2.2.2.2.2.2.2.2)
theorem bw_b11_e {A0 A1 A2 A3 A4 A5 A6 A7 A8 A9 A10 β : Type} {x : Option (A0 × A1 × A2 × A3 × A4 × A5 × A6 × A7 × A8 × A9 × A10)} {f : A0 → A1 → A2 → A3 → A4 → A5 → A6 → A7 → A8 → A9 → A10 → Option β} {r : β} (h : bw_b11 x f = some r) : ∃ a0 a1 a2 a3 a4 a5 a6 a7 a8 a9 a10, x = some (a0, a1, a2, a3, a4, a5, a6, a7, a8, a9, a10) ∧ f a0 a1 a2 a3 a4 a5 a6 a7 a8 a9 a10 = some r := by
  obtain ⟨⟨a0, a1, a2, a3, a4, a5, a6, a7, a8, a9, a10⟩, h1, h2⟩ := Option.bind_eq_some_iff.mp h
  exact ⟨a0, a1, a2, a3, a4, a5, a6, a7, a8, a9, a10, h1, h2⟩
theorem bw_b11_s {A0 A1 A2 A3 A4 A5 A6 A7 A8 A9 A10 β : Type} {f : A0 → A1 → A2 → A3 → A4 → A5 → A6 → A7 → A8 → A9 → A10 → Option β} (a0 : A0) (a1 : A1) (a2 : A2) (a3 : A3) (a4 : A4) (a5 : A5) (a6 : A6) (a7 : A7) (a8 : A8) (a9 : A9) (a10 : A10) : bw_b11 (some (a0, a1, a2, a3, a4, a5, a6, a7, a8, a9, a10)) f = f a0 a1 a2 a3 a4 a5 a6 a7 a8 a9 a10 := rfl
def bw_b12 {A0 A1 A2 A3 A4 A5 A6 A7 A8 A9 A10 A11 β : Type} (x : Option (A0 × A1 × A2 × A3 × A4 × A5 × A6 × A7 × A8 × A9 × A10 × A11)) (f : A0 → A1 → A2 → A3 → A4 → A5 → A6 → A7 → A8 → A9 → A10 → A11 → Option β) : Option β := x.bind fun r => f (r.1) (r.2.1) (r.2.2.1) (r.2.2.2.1) (r.2.2.2.2.1) (r.2.2.2.2.2.1) (r.2.2.2.2.2.2.1) (r.2.2.2.2.2.2.2.1) (r.2.2.2.2.2.2.2.2.1) (r.2.2.2.2.2.2.2.2.2.1) (r.2.2.2.2.2.2.2.2.2.2.1) (r.2.2.2.2.2.2.2.2.2.2.2)
theorem bw_b12_e {A0 A1 A2 A3 A4 A5 A6 A7 A8 A9 A10 A11 β : Type} {x : Option (A0 × A1 × A2 × A3 × A4 × A5 × A6 × A7 × A8 × A9 × A10 × A11)} {f : A0 → A1 → A2 → A3 → A4 → A5 → A6 → A7 → A8 → A9 → A10 → A11 → Option β} {r : β} (h : bw_b12 x f = some r) : ∃ a0 a1 a2 a3 a4 a5 a6 a7 a8 a9 a10 a11, x = some (a0, a1, a2, a3, a4, a5, a6, a7, a8, a9, a10, a11) ∧ f a0 a1 a2 a3 a4 a5 a6 a7 a8 a9 a10 a11 = some r := by
  obtain ⟨⟨a0, a1, a2, a3, a4, a5, a6, a7, a8, a9, a10, a11⟩, h1, h2⟩ := Option.bind_eq_some_iff.mp h
  exact ⟨a0, a1, a2, a3, a4, a5, a6, a7, a8, a9, a10, a11, h1, h2⟩
theorem bw_b12_s {A0 A1 A2 A3 A4 A5 A6 A7 A8 A9 A10 A11 β : Type} {f : A0 → A1 → A2 → A3 → A4 → A5 → A6 → A7 → A8 → A9 → A10 → A11 → Option β} (a0 : A0) (a1 : A1) (a2 : A2) (a3 : A3) (a4 : A4) (a5 : A5) (a6 : A6) (a7 : A7) (a8 : A8) (a9 : A9) (a10 : A10) (a11 : A11) : bw_b12 (some (a0, a1, a2, a3, a4, a5, a6, a7, a8, a9, a10, a11)) f = f a0 a1 a2 a3 a4 a5 a6 a7 a8 a9 a10 a11 := rfl
def bw_max (x y : Int32) : Int32 := if x < y then y else x
def bw_min (x y : Int32) : Int32 := if y < x then y else x
/-! moving a piece of a world to its front -/
theorem bw_mv1 (a b r : va_W) : (a ++ (b ++ r)).Perm (b ++ (a ++ r)) := by
  rw [← List.append_assoc, ← List.append_assoc]
  exact List.Perm.append_right r List.perm_append_comm
theorem bw_mv2 (a b c r : va_W) : (a ++ (b ++ (c ++ r))).Perm (c ++ (a ++ (b ++ r))) := (List.Perm.append_left a (bw_mv1 b c r)).trans (bw_mv1 a c (b ++ r))
theorem bw_mv3 (a b c d r : va_W) : (a ++ (b ++ (c ++ (d ++ r)))).Perm (d ++ (a ++ (b ++ (c ++ r)))) := (List.Perm.append_left a (bw_mv2 b c d r)).trans (bw_mv1 a d _)
theorem bw_mv4 (a b c d e r : va_W) : (a ++ (b ++ (c ++ (d ++ (e ++ r))))).Perm (e ++ (a ++ (b ++ (c ++ (d ++ r))))) := (List.Perm.append_left a (bw_mv3 b c d e r)).trans (bw_mv1 a e _)
theorem bw_mv5 (a b c d e f r : va_W) : (a ++ (b ++ (c ++ (d ++ (e ++ (f ++ r)))))).Perm (f ++ (a ++ (b ++ (c ++ (d ++ (e ++ r)))))) := (List.Perm.append_left a (bw_mv4 b c d e f r)).trans (bw_mv1 a f _)
/-! the worlds -/
def bw_tW (cy : Nat → ClassId) (h q n : Nat) (c : Int32) (f : bw_A1) : va_W := [(h, .inr (3, [.int c, .ref q])), (q, .inl (cy 0, n, .inl f))]
def bw_dO (a : Nat → Nat) (np nl : Int32) : va_W := [(a 0, .inr (0, [.ref (a 1), .ref (a 3), .ref (a 5), .ref (a 7), .ref (a 9), .int np, .int nl]))]
def bw_dW (cy : Nat → ClassId) (a : Nat → Nat) (P T L S Q : bw_A1) (np nl : Int32) : va_W := bw_dO a np nl ++ (bw_tW cy (a 1) (a 2) 84 14 P ++ (bw_tW cy (a 3) (a 4) 288 6 T ++ (bw_tW cy (a 5) (a 6) 90 3 L ++ (bw_tW cy (a 7) (a 8) 3 3 S ++ (bw_tW cy (a 9) (a 10) 18 3 Q ++ [])))))
theorem bw_pd0 (cy : Nat → ClassId) (a : Nat → Nat) (P T L S Q : bw_A1) (np nl : Int32) : (bw_dW cy a P T L S Q np nl).Perm (bw_tW cy (a 1) (a 2) 84 14 P ++ (bw_dO a np nl ++ (bw_tW cy (a 3) (a 4) 288 6 T ++ (bw_tW cy (a 5) (a 6) 90 3 L ++ (bw_tW cy (a 7) (a 8) 3 3 S ++ (bw_tW cy (a 9) (a 10) 18 3 Q ++ [])))))) := bw_mv1 (bw_dO a np nl) (bw_tW cy (a 1) (a 2) 84 14 P) _
theorem bw_pd1 (cy : Nat → ClassId) (a : Nat → Nat) (P T L S Q : bw_A1) (np nl : Int32) : (bw_dW cy a P T L S Q np nl).Perm (bw_tW cy (a 3) (a 4) 288 6 T ++ (bw_dO a np nl ++ (bw_tW cy (a 1) (a 2) 84 14 P ++ (bw_tW cy (a 5) (a 6) 90 3 L ++ (bw_tW cy (a 7) (a 8) 3 3 S ++ (bw_tW cy (a 9) (a 10) 18 3 Q ++ [])))))) := bw_mv2 (bw_dO a np nl) (bw_tW cy (a 1) (a 2) 84 14 P) (bw_tW cy (a 3) (a 4) 288 6 T) _
theorem bw_pd2 (cy : Nat → ClassId) (a : Nat → Nat) (P T L S Q : bw_A1) (np nl : Int32) : (bw_dW cy a P T L S Q np nl).Perm (bw_tW cy (a 5) (a 6) 90 3 L ++ (bw_dO a np nl ++ (bw_tW cy (a 1) (a 2) 84 14 P ++ (bw_tW cy (a 3) (a 4) 288 6 T ++ (bw_tW cy (a 7) (a 8) 3 3 S ++ (bw_tW cy (a 9) (a 10) 18 3 Q ++ [])))))) := bw_mv3 (bw_dO a np nl) (bw_tW cy (a 1) (a 2) 84 14 P) (bw_tW cy (a 3) (a 4) 288 6 T) (bw_tW cy (a 5) (a 6) 90 3 L) _
theorem bw_pd3 (cy : Nat → ClassId) (a : Nat → Nat) (P T L S Q : bw_A1) (np nl : Int32) : (bw_dW cy a P T L S Q np nl).Perm (bw_tW cy (a 7) (a 8) 3 3 S ++ (bw_dO a np nl ++ (bw_tW cy (a 1) (a 2) 84 14 P ++ (bw_tW cy (a 3) (a 4) 288 6 T ++ (bw_tW cy (a 5) (a 6) 90 3 L ++ (bw_tW cy (a 9) (a 10) 18 3 Q ++ [])))))) := bw_mv4 (bw_dO a np nl) (bw_tW cy (a 1) (a 2) 84 14 P) (bw_tW cy (a 3) (a 4) 288 6 T) (bw_tW cy (a 5) (a 6) 90 3 L) (bw_tW cy (a 7) (a 8) 3 3 S) _
theorem bw_pd4 (cy : Nat → ClassId) (a : Nat → Nat) (P T L S Q : bw_A1) (np nl : Int32) : (bw_dW cy a P T L S Q np nl).Perm (bw_tW cy (a 9) (a 10) 18 3 Q ++ (bw_dO a np nl ++ (bw_tW cy (a 1) (a 2) 84 14 P ++ (bw_tW cy (a 3) (a 4) 288 6 T ++ (bw_tW cy (a 5) (a 6) 90 3 L ++ (bw_tW cy (a 7) (a 8) 3 3 S ++ [])))))) := bw_mv5 (bw_dO a np nl) (bw_tW cy (a 1) (a 2) 84 14 P) (bw_tW cy (a 3) (a 4) 288 6 T) (bw_tW cy (a 5) (a 6) 90 3 L) (bw_tW cy (a 7) (a 8) 3 3 S) (bw_tW cy (a 9) (a 10) 18 3 Q) _
def bw_rW (h : Nat) (rp rn rt : Int32) : va_W := [(h, .inr (2, [.int rp, .int rn, .int rt]))]
def bw_xO (cy : Nat → ClassId) (h q r : Nat) (cs : bw_A1) (ln : Int32) : va_W := [(h, .inr (4, [.ref q, .ref r, .int ln])), (q, .inl (cy 0, 60, .inl cs))]
def bw_xT (cy : Nat → ClassId) (h q r : Nat) (cs : bw_A1) (ln rp rn rt : Int32) : va_W := bw_xO cy h q r cs ln ++ (bw_rW r rp rn rt ++ [])
theorem bw_pt0 (cy : Nat → ClassId) (h q r : Nat) (cs : bw_A1) (ln rp rn rt : Int32) : (bw_xT cy h q r cs ln rp rn rt).Perm (bw_rW r rp rn rt ++ (bw_xO cy h q r cs ln ++ [])) := bw_mv1 _ _ _
def bw_dD (cy : Nat → ClassId) (a : Nat → Nat) (d : bw_A2) : va_W := bw_dW cy a (d 0) (d 1) (d 2) (d 3) (d 4) (d 5 0) (d 5 1)
/-- the saved states: the object, its row of desks, the desks -/
def bw_hO (cy : Nat → ClassId) (b : Nat → Nat → Nat) (hn hs : Int32) : va_W := [(b 8 0, .inr (1, [.ref (b 8 1), .int hn, .int hs])), (b 8 1, .inl (cy 2, 6, .inr (.inr (.inr (.inr (fun j => some (b (2 + j) 0)))))))]
def bw_hW (cy : Nat → ClassId) (b : Nat → Nat → Nat) (sl : bw_A3) (hn hs : Int32) : va_W := bw_hO cy b hn hs ++ (bw_dD cy (b 2) (sl 0) ++ (bw_dD cy (b 3) (sl 1) ++ (bw_dD cy (b 4) (sl 2) ++ (bw_dD cy (b 5) (sl 3) ++ (bw_dD cy (b 6) (sl 4) ++ (bw_dD cy (b 7) (sl 5) ++ []))))))
def bw_hD (cy : Nat → ClassId) (b : Nat → Nat → Nat) (d : bw_A2) (sl : bw_A3) (hn hs : Int32) : va_W := bw_hW cy b sl hn hs ++ (bw_dD cy (b 0) d ++ [])
def bw_xB (b : Nat → Nat → Nat) : va_W := [(b 8 5, .inr (5, [.ref (b 0 0), .ref (b 1 0), .ref (b 8 0), .ref (b 8 2)]))]
def bw_xW (cy : Nat → ClassId) (b : Nat → Nat → Nat) (d t : bw_A2) (sl : bw_A3) (hn hs : Int32) (cs : bw_A1) (ln rp rn rt : Int32) : va_W := bw_xB b ++ (bw_dD cy (b 1) t ++ (bw_dD cy (b 0) d ++ (bw_hW cy b sl hn hs ++ (bw_xT cy (b 8 2) (b 8 3) (b 8 4) cs ln rp rn rt ++ []))))
theorem bw_px_t (cy : Nat → ClassId) (b : Nat → Nat → Nat) (d t : bw_A2) (sl : bw_A3) (hn hs : Int32) (cs : bw_A1) (ln rp rn rt : Int32) : (bw_xW cy b d t sl hn hs cs ln rp rn rt).Perm (bw_dD cy (b 1) t ++ (bw_xB b ++ (bw_dD cy (b 0) d ++ (bw_hW cy b sl hn hs ++ (bw_xT cy (b 8 2) (b 8 3) (b 8 4) cs ln rp rn rt ++ []))))) := bw_mv1 _ _ _
theorem bw_px_d (cy : Nat → ClassId) (b : Nat → Nat → Nat) (d t : bw_A2) (sl : bw_A3) (hn hs : Int32) (cs : bw_A1) (ln rp rn rt : Int32) : (bw_xW cy b d t sl hn hs cs ln rp rn rt).Perm (bw_dD cy (b 0) d ++ (bw_xB b ++ (bw_dD cy (b 1) t ++ (bw_hW cy b sl hn hs ++ (bw_xT cy (b 8 2) (b 8 3) (b 8 4) cs ln rp rn rt ++ []))))) := bw_mv2 _ _ _ _
theorem bw_px_td (cy : Nat → ClassId) (b : Nat → Nat → Nat) (d t : bw_A2) (sl : bw_A3) (hn hs : Int32) (cs : bw_A1) (ln rp rn rt : Int32) : (bw_xW cy b d t sl hn hs cs ln rp rn rt).Perm ((bw_dD cy (b 1) t ++ (bw_dD cy (b 0) d ++ [])) ++ (bw_xB b ++ (bw_hW cy b sl hn hs ++ (bw_xT cy (b 8 2) (b 8 3) (b 8 4) cs ln rp rn rt ++ [])))) := by
  refine (bw_px_t cy b d t sl hn hs cs ln rp rn rt).trans ?_
  rw [List.append_assoc, List.append_assoc, List.nil_append]
  exact List.Perm.append_left _ (bw_mv1 _ _ _)
theorem bw_px_h (cy : Nat → ClassId) (b : Nat → Nat → Nat) (d t : bw_A2) (sl : bw_A3) (hn hs : Int32) (cs : bw_A1) (ln rp rn rt : Int32) : (bw_xW cy b d t sl hn hs cs ln rp rn rt).Perm (bw_hD cy b d sl hn hs ++ (bw_xB b ++ (bw_dD cy (b 1) t ++ (bw_xT cy (b 8 2) (b 8 3) (b 8 4) cs ln rp rn rt ++ [])))) := by
  refine (bw_mv3 _ _ _ _ _).trans ?_
  unfold bw_hD
  rw [List.append_assoc, List.append_assoc, List.nil_append]
  exact List.Perm.append_left _ (bw_mv2 _ _ _ _)
theorem bw_px_x (cy : Nat → ClassId) (b : Nat → Nat → Nat) (d t : bw_A2) (sl : bw_A3) (hn hs : Int32) (cs : bw_A1) (ln rp rn rt : Int32) : (bw_xW cy b d t sl hn hs cs ln rp rn rt).Perm (bw_xT cy (b 8 2) (b 8 3) (b 8 4) cs ln rp rn rt ++ (bw_xB b ++ (bw_dD cy (b 1) t ++ (bw_dD cy (b 0) d ++ (bw_hW cy b sl hn hs ++ []))))) := bw_mv4 _ _ _ _ _ _
def bw_mW (cy : Nat → ClassId) (a : Nat → Nat) (z rows asd : bw_A1) (sm : Int32) (buf : bw_A1) (bm th : Int32) (od : bw_A1) (om ow ca bo la pl to : Int32) (rd : bw_A1) (hh : Int64) : va_W :=
  [(a 0, .inr (6, [.ref (a 1), .ref (a 2), .ref (a 3), .int sm, .ref (a 4), .int bm, .int th, .ref (a 5), .int om, .int ow, .int ca, .int bo, .int la, .int pl, .int to, .ref (a 6), .long hh])), (a 1, .inl (cy 0, 444, .inl z)), (a 2, .inl (cy 0, 2664, .inl rows)), (a 3, .inl (cy 0, 444, .inl asd)), (a 4, .inl (cy 0, 60, .inl buf)), (a 5, .inl (cy 0, 6, .inl od)), (a 6, .inl (cy 0, 110, .inl rd))]
/-! rows for Math, for switches, for a void end that changed nothing -/
section BWM
variable {p : Program} {l : Launch} {e : Env} {R : Room} {s : State} {m : MethodId} {args : Array Value} {below : List Frame} {meth : Method} {c : Code} {H : Heap} {locs : List Loc} {cells slots : Nat} {Q : State → Prop}
variable {cc : ByteArray} {nL pc : Nat} {ls : Array Slot} {rest : List Value} {G : va_G} {A : Nat → Prop} {ws : va_W} {own : String} {x0 : Cond}
theorem bw_mmax (S : CallFix p m c cc nL s args (x0 :: bw_L) own) (hsz : ls.size = nL) {index : Nat} (hlink : Cond.methodLink own index Lib.Math.max.name ∈ bw_L) (hstat : Cond.static Lib.Math.max.name ∈ bw_L) (hini : Cond.initialized "java/lang/Math" ∈ bw_L) (hcode : Cond.code Lib.Math.max.name Lib.Math.max.code 2 (some .int) ∈ bw_L)
    (hframes : 1 ≤ R.frames) (hlocals : (rest.map fun v => v.category).sum + 13 ≤ R.locals) (hcs : cells ≤ R.cells ∧ slots ≤ R.slots) {x y : Int32} (hdg : decode cc pc = .ok (.invokestatic index, 3))
    (kk : W p l e R s m args below meth c H locs cells slots Q (F0 m (pc + 3) ls (.int (bw_max x y) :: rest))) : W p l e R s m args below meth c H locs cells slots Q (F0 m pc ls (.int y :: .int x :: rest)) := by
  obtain ⟨hx, hb, hml, hown, hts⟩ := S
  exact va_mmax hx hb (hml.trans hsz.symm) hown (hts _ (List.mem_cons_of_mem _ hlink)) (hts _ (List.mem_cons_of_mem _ hstat)) (hts _ (List.mem_cons_of_mem _ hini)) (hts _ (List.mem_cons_of_mem _ hcode)) hframes hlocals hcs.1 hcs.2 hdg kk
theorem bw_mmin (S : CallFix p m c cc nL s args (x0 :: bw_L) own) (hsz : ls.size = nL) {index : Nat} (hlink : Cond.methodLink own index Lib.Math.min.name ∈ bw_L) (hstat : Cond.static Lib.Math.min.name ∈ bw_L) (hini : Cond.initialized "java/lang/Math" ∈ bw_L) (hcode : Cond.code Lib.Math.min.name Lib.Math.min.code 2 (some .int) ∈ bw_L)
    (hframes : 1 ≤ R.frames) (hlocals : (rest.map fun v => v.category).sum + 13 ≤ R.locals) (hcs : cells ≤ R.cells ∧ slots ≤ R.slots) {x y : Int32} (hdg : decode cc pc = .ok (.invokestatic index, 3))
    (kk : W p l e R s m args below meth c H locs cells slots Q (F0 m (pc + 3) ls (.int (bw_min x y) :: rest))) : W p l e R s m args below meth c H locs cells slots Q (F0 m pc ls (.int y :: .int x :: rest)) := by
  obtain ⟨hx, hb, hml, hown, hts⟩ := S
  exact va_mmin hx hb (hml.trans hsz.symm) hown (hts _ (List.mem_cons_of_mem _ hlink)) (hts _ (List.mem_cons_of_mem _ hstat)) (hts _ (List.mem_cons_of_mem _ hini)) (hts _ (List.mem_cons_of_mem _ hcode)) hframes hlocals hcs.1 hcs.2 hdg kk
theorem bw_vretP (S : CallFix p m c cc nL s args (x0 :: bw_L) own) (hr : meth.sig.returnType = none) (hlocks : meth.locks = false) (hI : bw_I G A s.heap ws H locs) (hdg : decode cc pc = .ok (.return_, 1)) (hQ : MQ below (bw_Q G none ws A) args s 0 0 A = Q) :
    W p l e R s m args below meth c H locs 0 0 Q (F0 m pc ls []) := by
  subst hQ
  exact  W.vret S.1 S.2.1 hr (fun t ht hW => ⟨rfl, by rw [ht]; exact hI.1, hI.2.2.1.F ht⟩) hI.2.2.1.2.2 hdg hlocks
end BWM
theorem bw_nei {x k : Int32} (h : ¬ x = k) : ¬ x.toInt = k.toInt := fun e => h (Int32.toInt_inj.mp e)
theorem bw_out4 {x : Int32} (t0 : ¬ x.toInt = (0 : Int32).toInt) (t1 : ¬ x.toInt = (1 : Int32).toInt) (t2 : ¬ x.toInt = (2 : Int32).toInt) (t3 : ¬ x.toInt = (3 : Int32).toInt) : x.toInt < 0 ∨ 3 < x.toInt := by
  have t0 : ¬ x.toInt = 0 := t0
  have t1 : ¬ x.toInt = 1 := t1
  have t2 : ¬ x.toInt = 2 := t2
  have t3 : ¬ x.toInt = 3 := t3
  omega
theorem bw_out9 {x : Int32} (t0 : ¬ x.toInt = (0 : Int32).toInt) (t1 : ¬ x.toInt = (1 : Int32).toInt) (t2 : ¬ x.toInt = (2 : Int32).toInt) (t3 : ¬ x.toInt = (3 : Int32).toInt) (t4 : ¬ x.toInt = (4 : Int32).toInt) (t5 : ¬ x.toInt = (5 : Int32).toInt) (t6 : ¬ x.toInt = (6 : Int32).toInt) (t7 : ¬ x.toInt = (7 : Int32).toInt) (t8 : ¬ x.toInt = (8 : Int32).toInt) : x.toInt < 0 ∨ 8 < x.toInt := by
  have t0 : ¬ x.toInt = 0 := t0
  have t1 : ¬ x.toInt = 1 := t1
  have t2 : ¬ x.toInt = 2 := t2
  have t3 : ¬ x.toInt = 3 := t3
  have t4 : ¬ x.toInt = 4 := t4
  have t5 : ¬ x.toInt = 5 := t5
  have t6 : ¬ x.toInt = 6 := t6
  have t7 : ¬ x.toInt = 7 := t7
  have t8 : ¬ x.toInt = 8 := t8
  omega
theorem bw_out14 {x : Int32} (t0 : ¬ x.toInt = (0 : Int32).toInt) (t1 : ¬ x.toInt = (1 : Int32).toInt) (t2 : ¬ x.toInt = (2 : Int32).toInt) (t3 : ¬ x.toInt = (3 : Int32).toInt) (t4 : ¬ x.toInt = (4 : Int32).toInt) (t5 : ¬ x.toInt = (5 : Int32).toInt) (t6 : ¬ x.toInt = (6 : Int32).toInt) (t7 : ¬ x.toInt = (7 : Int32).toInt) (t8 : ¬ x.toInt = (8 : Int32).toInt) (t9 : ¬ x.toInt = (9 : Int32).toInt) (t10 : ¬ x.toInt = (10 : Int32).toInt) (t11 : ¬ x.toInt = (11 : Int32).toInt) (t12 : ¬ x.toInt = (12 : Int32).toInt) (t13 : ¬ x.toInt = (13 : Int32).toInt) : x.toInt < 0 ∨ 13 < x.toInt := by
  have t0 : ¬ x.toInt = 0 := t0
  have t1 : ¬ x.toInt = 1 := t1
  have t2 : ¬ x.toInt = 2 := t2
  have t3 : ¬ x.toInt = 3 := t3
  have t4 : ¬ x.toInt = 4 := t4
  have t5 : ¬ x.toInt = 5 := t5
  have t6 : ¬ x.toInt = 6 := t6
  have t7 : ¬ x.toInt = 7 := t7
  have t8 : ¬ x.toInt = 8 := t8
  have t9 : ¬ x.toInt = 9 := t9
  have t10 : ¬ x.toInt = 10 := t10
  have t11 : ¬ x.toInt = 11 := t11
  have t12 : ¬ x.toInt = 12 := t12
  have t13 : ¬ x.toInt = 13 := t13
  omega
theorem bw_out26 {x : Int32} (t0 : ¬ x.toInt = (0 : Int32).toInt) (t1 : ¬ x.toInt = (1 : Int32).toInt) (t2 : ¬ x.toInt = (2 : Int32).toInt) (t3 : ¬ x.toInt = (3 : Int32).toInt) (t4 : ¬ x.toInt = (4 : Int32).toInt) (t5 : ¬ x.toInt = (5 : Int32).toInt) (t6 : ¬ x.toInt = (6 : Int32).toInt) (t7 : ¬ x.toInt = (7 : Int32).toInt) (t8 : ¬ x.toInt = (8 : Int32).toInt) (t9 : ¬ x.toInt = (9 : Int32).toInt) (t10 : ¬ x.toInt = (10 : Int32).toInt) (t11 : ¬ x.toInt = (11 : Int32).toInt) (t12 : ¬ x.toInt = (12 : Int32).toInt) (t13 : ¬ x.toInt = (13 : Int32).toInt) (t14 : ¬ x.toInt = (14 : Int32).toInt) (t15 : ¬ x.toInt = (15 : Int32).toInt) (t16 : ¬ x.toInt = (16 : Int32).toInt) (t17 : ¬ x.toInt = (17 : Int32).toInt) (t18 : ¬ x.toInt = (18 : Int32).toInt) (t19 : ¬ x.toInt = (19 : Int32).toInt) (t20 : ¬ x.toInt = (20 : Int32).toInt) (t21 : ¬ x.toInt = (21 : Int32).toInt) (t22 : ¬ x.toInt = (22 : Int32).toInt) (t23 : ¬ x.toInt = (23 : Int32).toInt) (t24 : ¬ x.toInt = (24 : Int32).toInt) (t25 : ¬ x.toInt = (25 : Int32).toInt) : x.toInt < 0 ∨ 25 < x.toInt := by
  have t0 : ¬ x.toInt = 0 := t0
  have t1 : ¬ x.toInt = 1 := t1
  have t2 : ¬ x.toInt = 2 := t2
  have t3 : ¬ x.toInt = 3 := t3
  have t4 : ¬ x.toInt = 4 := t4
  have t5 : ¬ x.toInt = 5 := t5
  have t6 : ¬ x.toInt = 6 := t6
  have t7 : ¬ x.toInt = 7 := t7
  have t8 : ¬ x.toInt = 8 := t8
  have t9 : ¬ x.toInt = 9 := t9
  have t10 : ¬ x.toInt = 10 := t10
  have t11 : ¬ x.toInt = 11 := t11
  have t12 : ¬ x.toInt = 12 := t12
  have t13 : ¬ x.toInt = 13 := t13
  have t14 : ¬ x.toInt = 14 := t14
  have t15 : ¬ x.toInt = 15 := t15
  have t16 : ¬ x.toInt = 16 := t16
  have t17 : ¬ x.toInt = 17 := t17
  have t18 : ¬ x.toInt = 18 := t18
  have t19 : ¬ x.toInt = 19 := t19
  have t20 : ¬ x.toInt = 20 := t20
  have t21 : ¬ x.toInt = 21 := t21
  have t22 : ¬ x.toInt = 22 := t22
  have t23 : ¬ x.toInt = 23 := t23
  have t24 : ¬ x.toInt = 24 := t24
  have t25 : ¬ x.toInt = 25 := t25
  omega
theorem bw_lk2 {x : Int32} {d o0 o1 : Int} (t0 : ¬ x.toInt = (0 : Int32).toInt) (t1 : ¬ x.toInt = (1 : Int32).toInt) : Op.lookupswitch.offset (#[((0 : Int), o0), (1, o1)] : Array (Int × Int)).toList d x.toInt = d := by
  have h0 : ¬ x.toInt = 0 := t0
  have h1 : ¬ x.toInt = 1 := t1
  have h0' : ¬ (0 : Int) = x.toInt := fun e => t0 e.symm
  have h1' : ¬ (1 : Int) = x.toInt := fun e => t1 e.symm
  simp [Op.lookupswitch.offset, h0, h1, h0', h1']
