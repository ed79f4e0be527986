theorem MI_cold {M : MS} {np nv t : Nat} {x : Int32} (h : MI M np nv t) (hx : rng x (-20) 60) : MI (mset M 1 0 x) np nv t := by
  have e : ∀ k, k ≠ 1 → (mset M 1 0 x).1 k = M.1 k := fun k hk => mset_k hk
  obtain ⟨h1, h2, h3, h4, h5, h6, h7, h8⟩ := h
  refine ⟨?_, ?_, ?_, ?_, ?_, ?_, h7, h8⟩
  · unfold MNn at h1 ⊢
    rw [e 3 (by decide), e 16 (by decide)]
    exact h1
  · unfold GI at h2 ⊢
    rw [e 24 (by decide), e 25 (by decide)]
    exact h2
  · intro i hi
    have := h3 i hi
    unfold VIv at this ⊢
    rw [e 22 (by decide), e 17 (by decide), e 18 (by decide), e 19 (by decide), e 24 (by decide), e 21 (by decide), e 20 (by decide)]
    exact this
  · intro i hi
    have := h4 i hi
    unfold PCv at this ⊢
    rw [e 13 (by decide), e 6 (by decide), e 5 (by decide)]
    exact this
  · intro i hi
    have := h5 i hi
    unfold FZp at this ⊢
    rw [e 7 (by decide), e 8 (by decide), e 9 (by decide), e 10 (by decide)]
    exact this
  · rw [mset_s]
    exact hx
theorem RXM_cold {Z : XZ} {S : XS} {M : MS} {t : Nat} {x : Int32} (h : RXM Z S M t) (hx : rng x (-20) 60) : RXM Z (xset S 0 0 7 x) (mset M 1 0 x) t := by
  obtain ⟨h1, h2, h3, h4, h5, h6, h7, h8, h9, h10, h11, h12, h13, h14, h15⟩ := h
  have e : ∀ k, k ≠ 1 → (mset M 1 0 x).1 k = M.1 k := fun k hk => mset_k hk
  have s : ∀ k, k ≠ 0 → (xset S 0 0 7 x).1 k = S.1 k := fun k hk => xset_kk hk
  have hc : ∀ p b n, cntOn (mset M 1 0 x) p b n = cntOn M p b n := fun p b n => by
    induction n with
    | zero => rfl
    | succ n ih =>
      show cntOn (mset M 1 0 x) p b n + _ = cntOn M p b n + _
      rw [ih, e 20 (by decide), e 21 (by decide), e 22 (by decide)]
  have hw : ∀ p n, M_weights_f (mset M 1 0 x) p n = M_weights_f M p n := fun p n => by
    induction n with
    | zero => rfl
    | succ n ih =>
      show M_weights_s (mset M 1 0 x) p n (M_weights_f (mset M 1 0 x) p n) = M_weights_s M p n (M_weights_f M p n)
      rw [ih]
      unfold M_weights_s M_weight
      simp only [e 20 (by decide), e 21 (by decide), e 17 (by decide), e 24 (by decide)]
  have hl : ∀ g n, sumLd (xset S 0 0 7 x) g n = sumLd S g n := fun g n => by
    induction n with
    | zero => rfl
    | succ n ih =>
      show sumLd (xset S 0 0 7 x) g n + _ = sumLd S g n + _
      rw [ih, s 3 (by decide)]
  refine ⟨h1, h2, MI_cold h3 hx, h4, ?_, ?_, ?_, ?_, ?_, fun p hp => ?_, fun i hi => ?_, fun g hg => ?_, h13, fun i hi hi2 => ?_, fun p hp hp2 => ?_⟩
  · rw [e 0 (by decide), xset_f (by decide)]; exact h5
  · rw [mset_s, xset_s]
  · rw [e 2 (by decide), xset_f (by decide)]; exact h7
  · rw [e 0 (by decide)]; exact h8
  · rw [e 2 (by decide)]; exact h9
  · have := h10 p hp
    unfold RP at this ⊢
    rw [e 4 (by decide), e 5 (by decide), e 6 (by decide), e 7 (by decide), e 8 (by decide), e 9 (by decide), e 10 (by decide), e 11 (by decide), e 12 (by decide), e 13 (by decide), hc, hc, hw, e 15 (by decide), s 1 (by decide)]
    exact this
  · have := h11 i hi
    unfold RV at this ⊢
    rw [e 17 (by decide), e 18 (by decide), e 19 (by decide), e 20 (by decide), e 21 (by decide), e 22 (by decide), e 23 (by decide), e 24 (by decide), e 25 (by decide), s 2 (by decide), s 3 (by decide)]
    exact this
  · have := h12 g hg
    unfold RG at this ⊢
    rw [e 26 (by decide), e 27 (by decide), e 28 (by decide), s 5 (by decide), hl]
    exact this
  · rw [e 20 (by decide), e 21 (by decide), e 22 (by decide), e 23 (by decide), e 24 (by decide)]
    exact h14 i hi hi2
  · rw [e 7 (by decide), e 8 (by decide), e 9 (by decide), e 10 (by decide), e 11 (by decide), e 12 (by decide)]
    exact h15 p hp hp2
theorem st_weather {Z : XZ} {S : XS} {M : MS} {t : Nat} (h : RXM Z S M t) (ht : t < 512) (uk : Int32) : SA (X_weather Z S uk).1 (X_weather Z S uk).2.1 (M_weather M uk).1 (M_weather M uk).2 (cdL EIAE "") (RXM Z (X_weather Z S uk).2.2 (M_weather M uk).2 (t + 1)) (RXM Z S (M_weather M uk).2 (t + 1)) := by
  have hg : S.1 0 0 7 = M.1 1 0 := h.2.2.2.2.2.1
  rcases nR_iff (Z := Z) (S := S) (M := M) (x := uk) (a := -20) (b := 60) with ⟨c1, c2⟩ | ⟨c1, c2⟩
  · have eX : X_weather Z S uk = (none, S.1 0 0 7, xset S 0 0 7 uk) := by
      unfold X_weather
      rw [if_pos c1]
    have eM : M_weather M uk = ((mset M 29 0 0).1 1 0, mset (mset M 29 0 0) 1 0 uk) := by
      unfold M_weather
      rw [if_pos c2]
    rw [eX, eM]
    refine Or.inl ⟨rfl, ?_, ?_, ?_⟩
    · show (mset (mset M 29 0 0) 1 0 uk).1 29 0 = 0
      rw [mset_k (by decide), mset_s]
    · show S.1 0 0 7 = (mset M 29 0 0).1 1 0
      rw [mset_k (by decide)]
      exact hg
    · refine RXM_t (RXM_cold (RXM_29 h) ?_) ht
      obtain ⟨d1, d2⟩ := c2
      rw [Int32.lt_iff_toInt_lt] at d1 d2
      rw [show (-20 : Int32).toInt = -20 by decide] at d1
      rw [show (60 : Int32).toInt = 60 by decide] at d2
      exact ⟨by omega, by omega⟩
  · have eX : X_weather Z S uk = (X_needRange Z S uk (-20) 60, 0, S) := by
      unfold X_weather
      rw [if_neg (by rw [c1]; exact fun z => nomatch z)]
    have eM : M_weather M uk = (0, mset M 29 0 1) := by
      unfold M_weather
      rw [if_neg c2]
    rw [eX, eM]
    exact Or.inr ⟨EIAE, c1, by show (mset M 29 0 1).1 29 0 = _; rw [mset_s, cdL_1], RXM_t (RXM_29 h) ht⟩
