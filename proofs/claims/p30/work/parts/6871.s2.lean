theorem st_gap {Z : XZ} {S : XS} {M : MS} {t : Nat} (h : RXM Z S M t) (ht : t < 512) (uk : Int32) : SA (X_gap Z S uk).1 (X_gap Z S uk).2.1 (M_gap M uk).1 (M_gap M uk).2 (cdL EIAE "") (RXM Z (X_gap Z S uk).2.2 (M_gap M uk).2 (t + 1)) (RXM Z S (M_gap M uk).2 (t + 1)) := by
  have hg : S.1 0 0 8 = M.1 2 0 := h.2.2.2.2.2.2.1
  rcases nR_iff (Z := Z) (S := S) (M := M) (x := uk) (a := 0) (b := 120) with ⟨c1, c2⟩ | ⟨c1, c2⟩
  · have eX : X_gap Z S uk = (none, S.1 0 0 8, xset S 0 0 8 uk) := by
      unfold X_gap
      rw [if_pos c1]
    have eM : M_gap M uk = ((mset M 29 0 0).1 2 0, mset (mset M 29 0 0) 2 0 uk) := by
      unfold M_gap
      rw [if_pos c2]
    rw [eX, eM]
    refine Or.inl ⟨rfl, ?_, ?_, ?_⟩
    · show (mset (mset M 29 0 0) 2 0 uk).1 29 0 = 0
      rw [mset_k (by decide), mset_s]
    · show S.1 0 0 8 = (mset M 29 0 0).1 2 0
      rw [mset_k (by decide)]
      exact hg
    · refine RXM_t (RXM_gap (RXM_29 h) ?_) ht
      obtain ⟨d1, d2⟩ := c2
      rw [Int32.lt_iff_toInt_lt] at d1 d2
      rw [show (0 : Int32).toInt = 0 by decide] at d1
      rw [show (120 : Int32).toInt = 120 by decide] at d2
      exact ⟨by omega, by omega⟩
  · have eX : X_gap Z S uk = (X_needRange Z S uk 0 120, 0, S) := by
      unfold X_gap
      rw [if_neg (by rw [c1]; exact fun z => nomatch z)]
    have eM : M_gap M uk = (0, mset M 29 0 1) := by
      unfold M_gap
      rw [if_neg c2]
    rw [eX, eM]
    exact Or.inr ⟨EIAE, c1, by show (mset M 29 0 1).1 29 0 = _; rw [mset_s, cdL_1], RXM_t (RXM_29 h) ht⟩
