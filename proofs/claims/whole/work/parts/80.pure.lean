/- needs: 70.law -/
/-! ===== the law from its start ===== -/
def bs0 : bSt := (0, fun _ _ => 0, fun _ => 0, [], fun i => if i = 1 then 30 else if i = 2 then 50 else 0, 0)
theorem bs0_in : bIn bs0 0 0 := by
  refine ⟨⟨by decide, ⟨fun q hq => (by cases hq), List.nodup_nil⟩, fun e he => (by cases he), fun k hk => absurd hk (by show ¬k < 0; omega), fun k hk => absurd hk (by show ¬k < 0; omega), fun k hk => absurd hk (by show ¬k < 0; omega), fun k hk => absurd hk (by show ¬k < 0; omega), Int.le_refl _, Int.le_refl _, ?_, ?_, ?_⟩, fun q hq => (by cases hq), fun k hk => absurd hk (by show ¬k < 0; omega), fun k hk => absurd hk (by show ¬k < 0; omega), fun k hk => absurd hk (by show ¬k < 0; omega), fun k hk => absurd hk (by show ¬k < 0; omega), rfl, fun k hk => ⟨rfl, fun c => rfl⟩⟩
  · exact ⟨by show (0 : Int) ≤ 0; omega, by show (0 : Int) ≤ 2; omega⟩
  · exact ⟨by show (0 : Int) ≤ 30; omega, by show (30 : Int) ≤ 100; omega⟩
  · exact ⟨by show (0 : Int) ≤ 50; omega, by show (50 : Int) ≤ 100; omega⟩
theorem bs0_Z : bRZ bw_z0 bs0 := by
  have hz : ∀ j, j ≠ 4 → j ≠ 5 → bw_z0 j = 0 := fun j h4 h5 => by
    unfold bw_z0
    rw [upd_ne _ _ h5, upd_ne _ _ h4]
  refine ⟨by decide, by decide, hz 0 (by omega) (by omega), hz 1 (by omega) (by omega), hz 2 (by omega) (by omega), fun i hi => ?_, fun k hk => absurd hk (by show ¬k < 0; omega), fun k c hk => absurd hk (by show ¬k < 0; omega), fun i hi => absurd hi (by show ¬i < 0; omega), fun i hi => absurd hi (by show ¬i < 0; omega), fun i hi => absurd hi (by show ¬i < 0; omega)⟩
  have hc : i = 0 ∨ i = 1 ∨ i = 2 := by omega
  rcases hc with rfl | rfl | rfl
  · exact hz 3 (by omega) (by omega)
  · show bw_z0 4 = iv 30
    unfold bw_z0
    rw [upd_ne _ _ (by omega), upd_self]
    rfl
  · show bw_z0 5 = iv 50
    unfold bw_z0
    rw [upd_self]
    rfl
theorem bs0_X : bRD bw_d0 bs0 := by
  refine ⟨by decide, rfl, ⟨fun k c hk hc => ?_, rfl, by decide, fun i hi => absurd hi (by show ¬i < 0; omega), fun i hi => absurd hi (by show ¬i < 0; omega), fun i hi => absurd hi (by show ¬i < 0; omega)⟩, fun k t c hk ht hc => rfl, fun i hi => ?_⟩
  · show (0 : Int32) = iv (bT (bTP bs0.2.1) bs0.2.2.1 [] k c)
    have e : bT (bTP bs0.2.1) bs0.2.2.1 [] k c = 0 := by
      unfold bT bTP
      have h1 : ∀ n, bsP bs0.2.1 k 10 n = 0 := by
        intro n
        induction n with
        | zero => rfl
        | succ n ih => show bsP bs0.2.1 k 10 n + 0 = 0; rw [ih]; rfl
      have h2 : ∀ n, bsP bs0.2.1 k 18 n = 0 := by
        intro n
        induction n with
        | zero => rfl
        | succ n ih => show bsP bs0.2.1 k 18 n + 0 = 0; rw [ih]; rfl
      rw [h1, h2]
      show (if c = 2 then (0 : Int) else if c = 4 then 0 else if c = 5 then 0 else if c = 0 then 0 else if c = 1 then 0 else if c = 3 then 0 else if c = 6 then 0 else if c = 7 then 0 else if c = 8 then 0 else if c = 9 then 0 else if c = 10 then 0 else if c = 11 then 0 else if c = 12 then 0 else if c = 13 then 0 else 0) = 0
      simp only [ite_self]
    rw [e]
    rfl
  · have hc : i = 0 ∨ i = 1 ∨ i = 2 := by omega
    show bw_d0 3 i = _
    have e : bw_d0 3 = upd (upd (fun _ => 0) 1 30) 2 50 := rfl
    rw [e]
    rcases hc with rfl | rfl | rfl
    · rw [upd_ne _ _ (by omega), upd_ne _ _ (by omega)]
      rfl
    · rw [upd_ne _ _ (by omega), upd_self]
      rfl
    · rw [upd_self]
      rfl
theorem bw_pure {L : Nat} (hL : L ≤ 2048) (xs : Nat → Int32) : bw_S0 L xs := by
  have hT : bTX (fun _ => 0) 0 [] := ⟨rfl, by simp, fun i hi => by simp at hi, fun c hc => by cases hc⟩
  have hrel : bRel 0 bw_d0 (fun _ => bw_d0) 0 0 (fun _ => 0) 0 0 bw_z0 (fun _ => 0) 0 (fun _ => 0) 0 := by
    refine ⟨bs0, [], [], 0, ⟨bs0_X, ⟨rfl, by simp, 0, by omega, rfl, fun i hi => by simp at hi⟩, bs0_Z, ⟨rfl, by simp, fun i hi => by simp at hi⟩, ?_, fun t ht => by cases ht⟩, hT, hT, rfl, by omega⟩
    exact bs0_in
  exact l_law hL xs 5000 0 bw_d0 bw_d0 (fun _ => bw_d0) 0 0 (fun _ => 0) 0 0 0 0 bw_z0 (fun _ => 0) (fun _ => 0) 0 (fun _ => 0) 0 0 (fun _ => 0) 0 0 0 0 0 0 0 (fun _ => 0) 0 (fun _ => 0) hrel (by omega) (by omega)
