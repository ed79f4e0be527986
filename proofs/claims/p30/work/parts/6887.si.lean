/-! ===== what is made: pieces, vehicles, loads ===== -/
theorem xkset_1 {S : XS} {i : Nat} {v : NN} : (xkset S i v).1 = S.1 := rfl
theorem xcset_1 {S : XS} {i v : Nat} : (xcset S i v).1 = S.1 := rfl
theorem iP_o {Z : XZ} {S : XS} {it k i : Nat} {ui uf ud : Int32} (h : ¬ (k = 1 ∧ i = it)) : (X_iPiece Z S it ui uf ud).1 k i = S.1 k i := by
  unfold X_iPiece
  simp only [xset_k h, xkset_1]
theorem iP_c {Z : XZ} {S : XS} {it : Nat} {ui uf ud : Int32} : (X_iPiece Z S it ui uf ud).2.2 = S.2.2 := rfl
theorem iP_k {Z : XZ} {S : XS} {it p : Nat} {ui uf ud : Int32} (h : p ≠ it) : (X_iPiece Z S it ui uf ud).2.1 p = S.2.1 p := if_neg h
theorem iP_ks {Z : XZ} {S : XS} {it : Nat} {ui uf ud : Int32} : (X_iPiece Z S it ui uf ud).2.1 it = ⟨FP.dconst0, nn_0⟩ := if_pos rfl
theorem piece_ok {Z : XZ} {S : XS} {M : MS} {t h1 h2 : Nat} {ui uf ud : Int32} (h : RXA Z S M t) (hv : Z.N 1 = 0) (hp : Z.N 0 ≤ 9) (h6 : rng uf 1 20000) (h7 : rng ud 1 999) : RXA (zA Z 0 h1 h2) (xset (X_iPiece (zO Z 1 h1) (xz S 1 (Z.O 1)) (Z.O 1) ui uf ud) 6 0 0 ((X_iPiece (zO Z 1 h1) (xz S 1 (Z.O 1)) (Z.O 1) ui uf ud).1 6 0 0 + 1)) (mset (mset (mset (mset (mset (mset (mset M 4 (Z.N 0) ui) 5 (Z.N 0) uf) 6 (Z.N 0) ud) 13 (Z.N 0) 100) 15 (2 * Z.N 0) (-1000000)) 15 (2 * Z.N 0 + 1) (-1000000)) 3 0 (nI (Z.N 0 + 1))) t := by
  obtain ⟨h, hI, hB⟩ := h
  have hO : Z.O 1 = Z.N 0 := h.1.1.symm
  rw [hO]
  have n0 : (zA Z 0 h1 h2).N 0 = Z.N 0 + 1 := by rw [zA_N]; exact if_pos rfl
  have n1 : (zA Z 0 h1 h2).N 1 = 0 := by rw [zA_N, if_neg (by decide)]; exact hv
  have n2 : (zA Z 0 h1 h2).N 2 = Z.N 2 := by rw [zA_N, if_neg (by decide)]
  have o3 : (zA Z 0 h1 h2).O 3 = Z.O 3 := by rw [zA_O, if_neg (by decide)]
  have hWZ := WZ_add (h1 := h1) (h2 := h2) h.1 (show 0 < 3 by decide) (fun _ => hp) (fun z => absurd z (by decide)) (fun z => absurd z (by decide))
  have so : ∀ k i, ¬ (k = 1 ∧ i = Z.N 0) → k ≠ 6 → (xset (X_iPiece (zO Z 1 h1) (xz S 1 (Z.N 0)) (Z.N 0) ui uf ud) 6 0 0 ((X_iPiece (zO Z 1 h1) (xz S 1 (Z.N 0)) (Z.N 0) ui uf ud).1 6 0 0 + 1)).1 k i = S.1 k i := fun k i a b => by
    rw [xset_k (fun z => b z.1), iP_o a, xz_n a]
  have sc : (xset (X_iPiece (zO Z 1 h1) (xz S 1 (Z.N 0)) (Z.N 0) ui uf ud) 6 0 0 ((X_iPiece (zO Z 1 h1) (xz S 1 (Z.N 0)) (Z.N 0) ui uf ud).1 6 0 0 + 1)).2.2 = S.2.2 := xz_c (S := S) (k := 1) (i := Z.N 0) (by decide)
  have sk : ∀ p, p ≠ Z.N 0 → (xset (X_iPiece (zO Z 1 h1) (xz S 1 (Z.N 0)) (Z.N 0) ui uf ud) 6 0 0 ((X_iPiece (zO Z 1 h1) (xz S 1 (Z.N 0)) (Z.N 0) ui uf ud).1 6 0 0 + 1)).2.1 p = S.2.1 p := fun p hq => (iP_k (Z := zO Z 1 h1) (S := xz S 1 (Z.N 0)) (ui := ui) (uf := uf) (ud := ud) hq).trans (if_neg (fun z => hq z.2))
  have sks : (xset (X_iPiece (zO Z 1 h1) (xz S 1 (Z.N 0)) (Z.N 0) ui uf ud) 6 0 0 ((X_iPiece (zO Z 1 h1) (xz S 1 (Z.N 0)) (Z.N 0) ui uf ud).1 6 0 0 + 1)).2.1 (Z.N 0) = ⟨FP.dconst0, nn_0⟩ := iP_ks (Z := zO Z 1 h1) (S := xz S 1 (Z.N 0)) (ui := ui) (uf := uf) (ud := ud)
  have sp : ∀ f, (xset (X_iPiece (zO Z 1 h1) (xz S 1 (Z.N 0)) (Z.N 0) ui uf ud) 6 0 0 ((X_iPiece (zO Z 1 h1) (xz S 1 (Z.N 0)) (Z.N 0) ui uf ud).1 6 0 0 + 1)).1 1 (Z.N 0) f = if f = 2 then ud else if f = 1 then uf else if f = 0 then ui else if f = 15 then -1000 else if f = 14 then -1000 else if f = 9 then 100 else 0 := fun f => by
    rw [xset_n (by omega)]
    simp only [X_iPiece, xset, xkset, xz, true_and]
    by_cases c2 : f = 2
    · simp only [c2, if_true]
    by_cases c1 : f = 1
    · simp [c1]
    by_cases c0 : f = 0
    · simp [c0]
    by_cases c15 : f = 15
    · simp [c15]
    by_cases c14 : f = 14
    · simp [c14]
    by_cases c9 : f = 9
    · simp [c9]
    simp only [if_neg c2, if_neg c1, if_neg c0, if_neg c15, if_neg c14, if_neg c9, and_self, if_true]
    (repeat (first | rfl | split))
  generalize (xset (X_iPiece (zO Z 1 h1) (xz S 1 (Z.N 0)) (Z.N 0) ui uf ud) 6 0 0 ((X_iPiece (zO Z 1 h1) (xz S 1 (Z.N 0)) (Z.N 0) ui uf ud).1 6 0 0 + 1)) = S' at so sc sk sks sp ⊢
  have m : ∀ k i, k ≠ 3 → ¬ ((k = 4 ∨ k = 5 ∨ k = 6 ∨ k = 13) ∧ i = Z.N 0) → ¬ (k = 15 ∧ (i = 2 * Z.N 0 ∨ i = 2 * Z.N 0 + 1)) → (mset (mset (mset (mset (mset (mset (mset M 4 (Z.N 0) ui) 5 (Z.N 0) uf) 6 (Z.N 0) ud) 13 (Z.N 0) 100) 15 (2 * Z.N 0) (-1000000)) 15 (2 * Z.N 0 + 1) (-1000000)) 3 0 (nI (Z.N 0 + 1))).1 k i = M.1 k i := fun k i a b c => by
    rw [mset_n (by omega), mset_n (by omega), mset_n (by omega), mset_n (by omega), mset_n (by omega), mset_n (by omega), mset_n (by omega)]
  have m3 : (mset (mset (mset (mset (mset (mset (mset M 4 (Z.N 0) ui) 5 (Z.N 0) uf) 6 (Z.N 0) ud) 13 (Z.N 0) 100) 15 (2 * Z.N 0) (-1000000)) 15 (2 * Z.N 0 + 1) (-1000000)) 3 0 (nI (Z.N 0 + 1))).1 3 0 = nI (Z.N 0 + 1) := mset_s
  have m4 : (mset (mset (mset (mset (mset (mset (mset M 4 (Z.N 0) ui) 5 (Z.N 0) uf) 6 (Z.N 0) ud) 13 (Z.N 0) 100) 15 (2 * Z.N 0) (-1000000)) 15 (2 * Z.N 0 + 1) (-1000000)) 3 0 (nI (Z.N 0 + 1))).1 4 (Z.N 0) = ui := by
    rw [mset_k (by decide), mset_k (by decide), mset_k (by decide), mset_k (by decide), mset_k (by decide), mset_k (by decide), mset_s]
  have m5 : (mset (mset (mset (mset (mset (mset (mset M 4 (Z.N 0) ui) 5 (Z.N 0) uf) 6 (Z.N 0) ud) 13 (Z.N 0) 100) 15 (2 * Z.N 0) (-1000000)) 15 (2 * Z.N 0 + 1) (-1000000)) 3 0 (nI (Z.N 0 + 1))).1 5 (Z.N 0) = uf := by
    rw [mset_k (by decide), mset_k (by decide), mset_k (by decide), mset_k (by decide), mset_k (by decide), mset_s]
  have m6 : (mset (mset (mset (mset (mset (mset (mset M 4 (Z.N 0) ui) 5 (Z.N 0) uf) 6 (Z.N 0) ud) 13 (Z.N 0) 100) 15 (2 * Z.N 0) (-1000000)) 15 (2 * Z.N 0 + 1) (-1000000)) 3 0 (nI (Z.N 0 + 1))).1 6 (Z.N 0) = ud := by
    rw [mset_k (by decide), mset_k (by decide), mset_k (by decide), mset_k (by decide), mset_s]
  have m13 : (mset (mset (mset (mset (mset (mset (mset M 4 (Z.N 0) ui) 5 (Z.N 0) uf) 6 (Z.N 0) ud) 13 (Z.N 0) 100) 15 (2 * Z.N 0) (-1000000)) 15 (2 * Z.N 0 + 1) (-1000000)) 3 0 (nI (Z.N 0 + 1))).1 13 (Z.N 0) = 100 := by
    rw [mset_k (by decide), mset_k (by decide), mset_k (by decide), mset_s]
  have m15a : (mset (mset (mset (mset (mset (mset (mset M 4 (Z.N 0) ui) 5 (Z.N 0) uf) 6 (Z.N 0) ud) 13 (Z.N 0) 100) 15 (2 * Z.N 0) (-1000000)) 15 (2 * Z.N 0 + 1) (-1000000)) 3 0 (nI (Z.N 0 + 1))).1 15 (2 * Z.N 0) = -1000000 := by
    rw [mset_k (by decide), mset_n (by omega), mset_s]
  have m15b : (mset (mset (mset (mset (mset (mset (mset M 4 (Z.N 0) ui) 5 (Z.N 0) uf) 6 (Z.N 0) ud) 13 (Z.N 0) 100) 15 (2 * Z.N 0) (-1000000)) 15 (2 * Z.N 0 + 1) (-1000000)) 3 0 (nI (Z.N 0 + 1))).1 15 (2 * Z.N 0 + 1) = -1000000 := by
    rw [mset_k (by decide), mset_s]
  have mk : (mset (mset (mset (mset (mset (mset (mset M 4 (Z.N 0) ui) 5 (Z.N 0) uf) 6 (Z.N 0) ud) 13 (Z.N 0) 100) 15 (2 * Z.N 0) (-1000000)) 15 (2 * Z.N 0 + 1) (-1000000)) 3 0 (nI (Z.N 0 + 1))).2 = M.2 := rfl
  generalize (mset (mset (mset (mset (mset (mset (mset M 4 (Z.N 0) ui) 5 (Z.N 0) uf) 6 (Z.N 0) ud) 13 (Z.N 0) 100) 15 (2 * Z.N 0) (-1000000)) 15 (2 * Z.N 0 + 1) (-1000000)) 3 0 (nI (Z.N 0 + 1))) = M' at m m3 m4 m5 m6 m13 m15a m15b mk ⊢
  have mK : ∀ k, k ≠ 3 → k ≠ 4 → k ≠ 5 → k ≠ 6 → k ≠ 13 → k ≠ 15 → M'.1 k = M.1 k := fun k a b c d e f => funext fun i => m k i a (by omega) (by omega)
  obtain ⟨g1, g2, g4, g5, g6, g7, g8, g9, g10, g11, g12, g13, g14, g15⟩ := h
  obtain ⟨i1, i2, i3, i4, i5, i6, i7, i8⟩ := hI
  have z := g15 (Z.N 0) (Nat.le_refl _) (by omega)
  refine ⟨⟨hWZ, fun j => by rw [sc, o3]; exact g2 j, by rw [n2]; exact g4, ?_, ?_, ?_, ?_, ?_, fun p hq => ?_, fun j hj => ?_, fun g hg => ?_, fun i j hi => ?_, fun j a b => ?_, fun p a b => ?_⟩, ?_, ?_⟩
  · rw [so 0 0 (by omega) (by decide), m 0 0 (by decide) (by omega) (by omega)]; exact g5
  · rw [so 0 0 (by omega) (by decide), m 1 0 (by decide) (by omega) (by omega)]; exact g6
  · rw [so 0 0 (by omega) (by decide), m 2 0 (by decide) (by omega) (by omega)]; exact g7
  · rw [m 0 0 (by decide) (by omega) (by omega)]; exact g8
  · rw [m 2 0 (by decide) (by omega) (by omega)]; exact g9
  · rw [n0] at hq
    rw [n1]
    by_cases c : p = Z.N 0
    · subst c
      refine RP.mk ?_ ?_ ?_ (fun f a3 a9 => ?_) ?_ ?_ ?_ ?_ ?_ ?_
      · rw [sp, m4]; rfl
      · rw [sp, m5]; rfl
      · rw [sp, m6]; rfl
      · rw [sp, if_neg (by omega), if_neg (by omega), if_neg (by omega), if_neg (by omega), if_neg (by omega)]
        rcases (show f = 3 ∨ f = 4 ∨ f = 5 ∨ f = 6 ∨ f = 7 ∨ f = 8 ∨ f = 9 by omega) with rfl | rfl | rfl | rfl | rfl | rfl | rfl
        · rw [mK 7 (by decide) (by decide) (by decide) (by decide) (by decide) (by decide), z.1]; rfl
        · rw [mK 8 (by decide) (by decide) (by decide) (by decide) (by decide) (by decide), z.2.1]; rfl
        · rw [mK 9 (by decide) (by decide) (by decide) (by decide) (by decide) (by decide), z.2.2.1]; rfl
        · rw [mK 10 (by decide) (by decide) (by decide) (by decide) (by decide) (by decide), z.2.2.2.1]; rfl
        · rw [mK 11 (by decide) (by decide) (by decide) (by decide) (by decide) (by decide), z.2.2.2.2.1]; rfl
        · rw [mK 12 (by decide) (by decide) (by decide) (by decide) (by decide) (by decide), z.2.2.2.2.2.1]; rfl
        · rw [m13]; rfl
      · rw [sks, mk]
        exact Subtype.ext z.2.2.2.2.2.2.symm
      · rw [sp]; rfl
      · rw [sp]; rfl
      · rw [sp]; rfl
      · rw [sp, m15b]; exact Or.inl ⟨rfl, rfl⟩
      · rw [sp, m15a]; exact Or.inl ⟨rfl, rfl⟩
    · have e := g10 p (by omega)
      rw [hv] at e
      have f : ∀ k, 4 ≤ k → k ≤ 13 → M'.1 k p = M.1 k p := fun k a b => m k p (by omega) (by omega) (by omega)
      refine RP.mk ?_ ?_ ?_ (fun f' a3 a9 => ?_) ?_ ?_ ?_ ?_ ?_ ?_
      · rw [so 1 p (by omega) (by decide), f 4 (by omega) (by omega)]; exact e.1
      · rw [so 1 p (by omega) (by decide), f 5 (by omega) (by omega)]; exact e.2.1
      · rw [so 1 p (by omega) (by decide), f 6 (by omega) (by omega)]; exact e.2.2.1
      · rw [so 1 p (by omega) (by decide), f (f' + 4) (by omega) (by omega)]; exact e.f f' a3 a9
      · rw [sk p c, mk]; exact e.k
      · rw [so 1 p (by omega) (by decide)]; exact e.c1
      · rw [so 1 p (by omega) (by decide)]; exact e.c0
      · rw [so 1 p (by omega) (by decide)]; exact e.w
      · rw [so 1 p (by omega) (by decide), m 15 (2 * p + 1) (by decide) (by omega) (by omega)]; exact e.t1
      · rw [so 1 p (by omega) (by decide), m 15 (2 * p) (by decide) (by omega) (by omega)]; exact e.t0
  · rw [n1] at hj
    exact absurd hj (Nat.not_lt_zero _)
  · have e := g12 g hg
    unfold RG at e ⊢
    rw [n2, so 5 3 (by omega) (by decide), so 5 4 (by omega) (by decide), so 5 5 (by omega) (by decide), mK 26 (by decide) (by decide) (by decide) (by decide) (by decide) (by decide), mK 27 (by decide) (by decide) (by decide) (by decide) (by decide) (by decide), mK 28 (by decide) (by decide) (by decide) (by decide) (by decide) (by decide), sumLd_eq (S := S) (S' := S') (funext fun i => so 3 i (by omega) (by decide))]
    exact e
  · rw [n1] at hi
    exact absurd hi (Nat.not_lt_zero _)
  · rw [mK 20 (by decide) (by decide) (by decide) (by decide) (by decide) (by decide), mK 21 (by decide) (by decide) (by decide) (by decide) (by decide) (by decide), mK 22 (by decide) (by decide) (by decide) (by decide) (by decide) (by decide), mK 23 (by decide) (by decide) (by decide) (by decide) (by decide) (by decide), mK 24 (by decide) (by decide) (by decide) (by decide) (by decide) (by decide)]
    exact g14 j (by omega) b
  · rw [n0] at a
    rw [mK 7 (by decide) (by decide) (by decide) (by decide) (by decide) (by decide), mK 8 (by decide) (by decide) (by decide) (by decide) (by decide) (by decide), mK 9 (by decide) (by decide) (by decide) (by decide) (by decide) (by decide), mK 10 (by decide) (by decide) (by decide) (by decide) (by decide) (by decide), mK 11 (by decide) (by decide) (by decide) (by decide) (by decide) (by decide), mK 12 (by decide) (by decide) (by decide) (by decide) (by decide) (by decide), mk]
    exact g15 p (by omega) b
  · rw [n0, n1]
    refine ⟨⟨m3, by omega, by rw [mK 16 (by decide) (by decide) (by decide) (by decide) (by decide) (by decide), i1.2.2.1, hv], by omega⟩, fun j hj => ?_, fun j hj => absurd hj (Nat.not_lt_zero _), fun i hi => ?_, fun i hi => ?_, ?_, i7, fun z => absurd z (Nat.lt_irrefl 0)⟩
    · rw [mK 24 (by decide) (by decide) (by decide) (by decide) (by decide) (by decide)] at hj
      rw [mK 25 (by decide) (by decide) (by decide) (by decide) (by decide) (by decide)]
      exact i2 j hj
    · unfold PCv
      by_cases c : i = Z.N 0
      · subst c
        rw [m13, m6, m5]
        exact ⟨⟨by decide, by decide⟩, h7, h6⟩
      · rw [m 13 i (by decide) (by omega) (by omega), m 6 i (by decide) (by omega) (by omega), m 5 i (by decide) (by omega) (by omega)]
        exact i4 i (by omega)
    · unfold FZp
      rw [mK 7 (by decide) (by decide) (by decide) (by decide) (by decide) (by decide), mK 8 (by decide) (by decide) (by decide) (by decide) (by decide) (by decide), mK 9 (by decide) (by decide) (by decide) (by decide) (by decide) (by decide), mK 10 (by decide) (by decide) (by decide) (by decide) (by decide) (by decide)]
      by_cases c : i = Z.N 0
      · subst c
        rw [z.1, z.2.1, z.2.2.1, z.2.2.2.1, show (0 : Int32).toInt = 0 by decide]
        exact ⟨⟨by decide, by decide⟩, ⟨by omega, by omega, by omega⟩, ⟨by decide, by rw [show (0 : Int32).toInt = 0 by decide]; omega⟩⟩
      · exact i5 i (by omega)
    · rw [mK 1 (by decide) (by decide) (by decide) (by decide) (by decide) (by decide)]
      exact i6
  · rw [n1]
    rw [hv] at hB
    exact BI_eq hB (mK 24 (by decide) (by decide) (by decide) (by decide) (by decide) (by decide)) (mK 27 (by decide) (by decide) (by decide) (by decide) (by decide) (by decide))
