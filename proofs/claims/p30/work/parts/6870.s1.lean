/-- what a call says of both sides -/
def SA {α : Type} (T : Option String) (x y : α) (M' : MS) (cd : String → Int32) (ok bad : Prop) : Prop := (T = none ∧ M'.1 29 0 = 0 ∧ x = y ∧ ok) ∨ ∃ E, T = some E ∧ M'.1 29 0 = cd E ∧ bad
theorem nR_iff {Z : XZ} {S : XS} {M : MS} {x a b : Int32} : (X_needRange Z S x a b = none ∧ M_isIn M x a b) ∨ (X_needRange Z S x a b = some EIAE ∧ ¬ M_isIn M x a b) := by
  unfold X_needRange M_isIn
  by_cases h1 : x < a
  · rw [if_pos h1]
    exact Or.inr ⟨rfl, fun z => z.1 h1⟩
  · rw [if_neg h1]
    by_cases h2 : x ≤ b
    · rw [if_pos h2]
      exact Or.inl ⟨rfl, h1, fun z => by rw [Int32.lt_iff_toInt_lt] at z; rw [Int32.le_iff_toInt_le] at h2; omega⟩
    · rw [if_neg h2]
      exact Or.inr ⟨rfl, fun z => z.2 (i32_nle h2)⟩
theorem RXM_gap {Z : XZ} {S : XS} {M : MS} {t : Nat} {x : Int32} (h : RXM Z S M t) (hx : rng x 0 120) : RXM Z (xset S 0 0 8 x) (mset M 2 0 x) t := by
  obtain ⟨h1, h2, h3, h4, h5, h6, h7, h8, h9, h10, h11, h12, h13, h14, h15⟩ := h
  have e : ∀ k, k ≠ 2 → (mset M 2 0 x).1 k = M.1 k := fun k hk => mset_k hk
  have s : ∀ k, k ≠ 0 → (xset S 0 0 8 x).1 k = S.1 k := fun k hk => xset_kk hk
  have hc : ∀ p b n, cntOn (mset M 2 0 x) p b n = cntOn M p b n := fun p b n => by
    induction n with
    | zero => rfl
    | succ n ih =>
      show cntOn (mset M 2 0 x) p b n + _ = cntOn M p b n + _
      rw [ih, e 20 (by decide), e 21 (by decide), e 22 (by decide)]
  have hw : ∀ p n, M_weights_f (mset M 2 0 x) p n = M_weights_f M p n := fun p n => by
    induction n with
    | zero => rfl
    | succ n ih =>
      show M_weights_s (mset M 2 0 x) p n (M_weights_f (mset M 2 0 x) p n) = M_weights_s M p n (M_weights_f M p n)
      rw [ih]
      unfold M_weights_s M_weight
      simp only [e 20 (by decide), e 21 (by decide), e 17 (by decide), e 24 (by decide)]
  have hl : ∀ g n, sumLd (xset S 0 0 8 x) g n = sumLd S g n := fun g n => by
    induction n with
    | zero => rfl
    | succ n ih =>
      show sumLd (xset S 0 0 8 x) g n + _ = sumLd S g n + _
      rw [ih, s 3 (by decide)]
  refine ⟨h1, h2, MI_set h3 (by decide) rfl, h4, ?_, ?_, ?_, ?_, ?_, fun p hp => ?_, fun i hi => ?_, fun g hg => ?_, h13, fun i hi hi2 => ?_, fun p hp hp2 => ?_⟩
  · rw [e 0 (by decide), xset_f (by decide)]; exact h5
  · rw [e 1 (by decide), xset_f (by decide)]; exact h6
  · rw [mset_s, xset_s]
  · rw [e 0 (by decide)]; exact h8
  · rw [mset_s]; exact hx
  · have := h10 p hp
    unfold RP at this ⊢
    rw [e 4 (by decide), e 5 (by decide), e 6 (by decide), e 7 (by decide), e 8 (by decide), e 9 (by decide), e 10 (by decide), e 11 (by decide), e 12 (by decide), e 13 (by decide), hc, hc, hw, e 15 (by decide), s 1 (by decide)]
    exact this
  · have := h11 i hi
    unfold RV at this ⊢
    rw [e 17 (by decide), e 18 (by decide), e 19 (by decide), e 20 (by decide), e 21 (by decide), e 22 (by decide), e 23 (by decide), e 24 (by decide), e 25 (by decide), s 2 (by decide), s 3 (by decide)]
    exact this
  · have := h12 g hg
    unfold RG at this ⊢
    rw [e 26 (by decide), e 27 (by decide), e 28 (by decide), s 5 (by decide), hl]
    exact this
  · rw [e 20 (by decide), e 21 (by decide), e 22 (by decide), e 23 (by decide), e 24 (by decide)]
    exact h14 i hi hi2
  · rw [e 7 (by decide), e 8 (by decide), e 9 (by decide), e 10 (by decide), e 11 (by decide), e 12 (by decide)]
    exact h15 p hp hp2
