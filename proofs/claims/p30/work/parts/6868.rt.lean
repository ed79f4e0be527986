theorem MI_t {M : MS} {np nv t : Nat} (h : MI M np nv t) (ht : t < 512) : MI M np nv (t + 1) := by
  obtain ⟨h1, h2, h3, h4, h5, h6, h7, h8⟩ := h
  refine ⟨h1, h2, h3, h4, fun i hi => ?_, h6, by omega, h8⟩
  obtain ⟨f1, ⟨f2, f3, f4⟩, f5⟩ := h5 i hi
  exact ⟨f1, ⟨f2, f3, by omega⟩, ⟨f5.1, by have := f5.2; omega⟩⟩
theorem RXM_t {Z : XZ} {S : XS} {M : MS} {t : Nat} (h : RXM Z S M t) (ht : t < 512) : RXM Z S M (t + 1) := by
  obtain ⟨h1, h2, h3, h4, h5, h6, h7, h8, h9, h10, h11, h12, h13⟩ := h
  refine ⟨h1, h2, MI_t h3 ht, by omega, h5, h6, h7, h8, h9, h10, h11, fun g hg => ?_, h13⟩
  obtain ⟨a, b, c, d, e, f⟩ := h12 g hg
  exact ⟨a, b, c, d, ⟨e.1, by have := e.2; omega⟩, f⟩
theorem cntOn_set {M : MS} {p : Nat} {b v : Int32} {j : Nat} (n : Nat) : cntOn (mset M 29 j v) p b n = cntOn M p b n := by
  induction n with
  | zero => rfl
  | succ n ih =>
    show cntOn (mset M 29 j v) p b n + _ = cntOn M p b n + _
    rw [ih, mset_k (k := 29) (k' := 20) (by decide), mset_k (k := 29) (k' := 21) (by decide), mset_k (k := 29) (k' := 22) (by decide)]
