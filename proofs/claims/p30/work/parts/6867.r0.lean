/-- at the start they are alike -/
theorem RXM_0 (a : Nat) (ad : Nat → Nat) : RXM (XZ0 a ad) XS0 MS0 0 := by
  refine ⟨⟨rfl, rfl, rfl, Nat.zero_le _, Nat.zero_le _, Nat.zero_le _, fun i _ => ⟨Nat.le_refl _, Nat.zero_le _⟩⟩, fun j => Nat.le_refl _, ⟨⟨rfl, Nat.zero_le _, rfl, Nat.zero_le _⟩, ?_, ?_, ?_, ?_, ?_, Nat.zero_le _, ?_⟩, Nat.le_refl _, rfl, rfl, rfl, ⟨by decide, by decide⟩, ⟨by decide, by decide⟩, ?_, ?_, ?_, ?_, ?_, ?_⟩
  · intro j h
    exact absurd (show MS0.1 24 j ≤ 0 from by show (0 : Int32) ≤ 0; decide) h
  · intro j h
    exact absurd h (Nat.not_lt_zero _)
  · intro j h
    exact absurd h (Nat.not_lt_zero _)
  · intro j h
    exact absurd h (Nat.not_lt_zero _)
  · exact ⟨by decide, by decide⟩
  · intro h
    exact absurd h (Nat.not_lt_zero _)
  · intro p h
    exact absurd h (Nat.not_lt_zero _)
  · intro p h
    exact absurd h (Nat.not_lt_zero _)
  · intro g _
    exact ⟨rfl, rfl, rfl, rfl, ⟨by show (0 : Int) ≤ (0 : Int32).toInt; decide, by show (0 : Int32).toInt ≤ _; decide⟩, ⟨by show (0 : Int) ≤ (0 : Int32).toInt; decide, by show (0 : Int32).toInt ≤ _; decide⟩⟩
  · intro i j h
    exact absurd h (Nat.not_lt_zero _)
  · intro j _ _
    exact ⟨rfl, rfl, rfl, rfl, rfl⟩
  · intro p _ _
    exact ⟨rfl, rfl, rfl, rfl, rfl, rfl, rfl⟩
