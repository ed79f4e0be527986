theorem weights_29 {M : MS} {p v : Int32} {j : Nat} (n : Nat) : M_weights_f (mset M 29 j v) p n = M_weights_f M p n := by
  induction n with
  | zero => rfl
  | succ n ih =>
    show M_weights_s (mset M 29 j v) p n (M_weights_f (mset M 29 j v) p n) = M_weights_s M p n (M_weights_f M p n)
    rw [ih]
    unfold M_weights_s M_weight
    simp only [mset_k (k := 29) (k' := 20) (by decide), mset_k (k := 29) (k' := 21) (by decide), mset_k (k := 29) (k' := 17) (by decide), mset_k (k := 29) (k' := 24) (by decide)]
/-- the number of the exception is no part of what is alike -/
theorem RXM_29 {Z : XZ} {S : XS} {M : MS} {t j : Nat} {v : Int32} (h : RXM Z S M t) : RXM Z S (mset M 29 j v) t := by
  have e : ∀ k, k ≠ 29 → (mset M 29 j v).1 k = M.1 k := fun k hk => mset_k hk
  obtain ⟨h1, h2, h3, h4, h5, h6, h7, h8, h9, h10, h11, h12, h13, h14, h15⟩ := h
  refine ⟨h1, h2, MI_set h3 (by decide) rfl, h4, ?_, ?_, ?_, ?_, ?_, fun p hp => ?_, fun i hi => ?_, fun g hg => ?_, h13, fun i hi hi2 => ?_, fun p hp hp2 => ?_⟩
  · rw [e 0 (by decide)]; exact h5
  · rw [e 1 (by decide)]; exact h6
  · rw [e 2 (by decide)]; exact h7
  · rw [e 0 (by decide)]; exact h8
  · rw [e 2 (by decide)]; exact h9
  · have := h10 p hp
    unfold RP at this ⊢
    rw [e 4 (by decide), e 5 (by decide), e 6 (by decide), e 7 (by decide), e 8 (by decide), e 9 (by decide), e 10 (by decide), e 11 (by decide), e 12 (by decide), e 13 (by decide), cntOn_set, cntOn_set, weights_29, e 15 (by decide)]
    exact this
  · have := h11 i hi
    unfold RV at this ⊢
    rw [e 17 (by decide), e 18 (by decide), e 19 (by decide), e 20 (by decide), e 21 (by decide), e 22 (by decide), e 23 (by decide), e 24 (by decide), e 25 (by decide)]
    exact this
  · have := h12 g hg
    unfold RG at this ⊢
    rw [e 26 (by decide), e 27 (by decide), e 28 (by decide)]
    exact this
  · rw [e 20 (by decide), e 21 (by decide), e 22 (by decide), e 23 (by decide), e 24 (by decide)]
    exact h14 i hi hi2
  · rw [e 7 (by decide), e 8 (by decide), e 9 (by decide), e 10 (by decide), e 11 (by decide), e 12 (by decide)]
    exact h15 p hp hp2
