/-! ===== a vehicle is made ===== -/
theorem xz_kk {S : XS} {k i : Nat} (h : k ≠ 1) : (xz S k i).2.1 = S.2.1 := funext fun j => if_neg (fun z => h z.1)
theorem iV_o {Z : XZ} {S : XS} {it k i : Nat} {ui uf ud : Int32} (h : ¬ (k = 2 ∧ i = it)) : (X_iVehicle Z S it ui uf ud).1 k i = S.1 k i := by
  unfold X_iVehicle
  simp only [xset_k h, xcset_1]
theorem vehicle_ok {Z : XZ} {S : XS} {M : MS} {t h1 h2 : Nat} {ui uf ud : Int32} (h : RXA Z S M t) (hv : Z.N 1 ≤ 15) (hp : 0 < Z.N 0) (h5 : rng ui 500 40000) (h6 : rng uf 0 60000) (h7 : rng ud 1 300) : RXA (zA Z 1 h1 h2) (xset (X_iVehicle (zO Z 2 h1) (xz S 2 (Z.O 2)) (Z.O 2) ui uf ud) 6 1 0 ((X_iVehicle (zO Z 2 h1) (xz S 2 (Z.O 2)) (Z.O 2) ui uf ud).1 6 1 0 + 1)) (mset (mset (mset (mset (mset M 17 (Z.N 1) ui) 18 (Z.N 1) uf) 19 (Z.N 1) ud) 25 (Z.N 1) (-1)) 16 0 (nI (Z.N 1 + 1))) t := by
  obtain ⟨h, hI, hB⟩ := h
  have hO : Z.O 2 = Z.N 1 := h.1.2.1.symm
  rw [hO]
  have n1 : (zA Z 1 h1 h2).N 1 = Z.N 1 + 1 := by rw [zA_N]; exact if_pos rfl
  have n0 : (zA Z 1 h1 h2).N 0 = Z.N 0 := by rw [zA_N, if_neg (by decide)]
  have n2 : (zA Z 1 h1 h2).N 2 = Z.N 2 := by rw [zA_N, if_neg (by decide)]
  have o3 : (zA Z 1 h1 h2).O 3 = Z.O 3 := by rw [zA_O, if_neg (by decide)]
  have hWZ := WZ_add (h1 := h1) (h2 := h2) h.1 (show 1 < 3 by decide) (fun z => absurd z (by decide)) (fun _ => hv) (fun z => absurd z (by decide))
  have so : ∀ k i, ¬ (k = 2 ∧ i = Z.N 1) → k ≠ 6 → (xset (X_iVehicle (zO Z 2 h1) (xz S 2 (Z.N 1)) (Z.N 1) ui uf ud) 6 1 0 ((X_iVehicle (zO Z 2 h1) (xz S 2 (Z.N 1)) (Z.N 1) ui uf ud).1 6 1 0 + 1)).1 k i = S.1 k i := fun k i a b => by
    rw [xset_k (fun z => b z.1), iV_o a, xz_n a]
  have sk : (xset (X_iVehicle (zO Z 2 h1) (xz S 2 (Z.N 1)) (Z.N 1) ui uf ud) 6 1 0 ((X_iVehicle (zO Z 2 h1) (xz S 2 (Z.N 1)) (Z.N 1) ui uf ud).1 6 1 0 + 1)).2.1 = S.2.1 := xz_kk (S := S) (k := 2) (i := Z.N 1) (by decide)
  have sc : ∀ j, j ≠ Z.N 1 → (xset (X_iVehicle (zO Z 2 h1) (xz S 2 (Z.N 1)) (Z.N 1) ui uf ud) 6 1 0 ((X_iVehicle (zO Z 2 h1) (xz S 2 (Z.N 1)) (Z.N 1) ui uf ud).1 6 1 0 + 1)).2.2 j = S.2.2 j := fun j hq => (if_neg hq).trans (if_neg (fun z => hq z.2))
  have scs : (xset (X_iVehicle (zO Z 2 h1) (xz S 2 (Z.N 1)) (Z.N 1) ui uf ud) 6 1 0 ((X_iVehicle (zO Z 2 h1) (xz S 2 (Z.N 1)) (Z.N 1) ui uf ud).1 6 1 0 + 1)).2.2 (Z.N 1) = 0 := if_pos rfl
  have sp : ∀ f, (xset (X_iVehicle (zO Z 2 h1) (xz S 2 (Z.N 1)) (Z.N 1) ui uf ud) 6 1 0 ((X_iVehicle (zO Z 2 h1) (xz S 2 (Z.N 1)) (Z.N 1) ui uf ud).1 6 1 0 + 1)).1 2 (Z.N 1) f = if f = 2 then ud else if f = 1 then uf else if f = 0 then ui else if f = 6 then -1 else 0 := fun f => by
    rw [xset_n (by omega)]
    simp only [X_iVehicle, xset, xcset, xz, true_and]
    by_cases c2 : f = 2
    · simp only [c2, if_true]
    by_cases c1 : f = 1
    · simp [c1]
    by_cases c0 : f = 0
    · simp [c0]
    by_cases c6 : f = 6
    · simp [c6]
    simp only [if_neg c2, if_neg c1, if_neg c0, if_neg c6, and_self, if_true]
    (repeat (first | rfl | split))
  generalize (xset (X_iVehicle (zO Z 2 h1) (xz S 2 (Z.N 1)) (Z.N 1) ui uf ud) 6 1 0 ((X_iVehicle (zO Z 2 h1) (xz S 2 (Z.N 1)) (Z.N 1) ui uf ud).1 6 1 0 + 1)) = S' at so sc sk scs sp ⊢
  have m : ∀ k i, k ≠ 16 → ¬ ((k = 17 ∨ k = 18 ∨ k = 19 ∨ k = 25) ∧ i = Z.N 1) → (mset (mset (mset (mset (mset M 17 (Z.N 1) ui) 18 (Z.N 1) uf) 19 (Z.N 1) ud) 25 (Z.N 1) (-1)) 16 0 (nI (Z.N 1 + 1))).1 k i = M.1 k i := fun k i a b => by
    rw [mset_n (by omega), mset_n (by omega), mset_n (by omega), mset_n (by omega), mset_n (by omega)]
  have m16 : (mset (mset (mset (mset (mset M 17 (Z.N 1) ui) 18 (Z.N 1) uf) 19 (Z.N 1) ud) 25 (Z.N 1) (-1)) 16 0 (nI (Z.N 1 + 1))).1 16 0 = nI (Z.N 1 + 1) := mset_s
  have m17 : (mset (mset (mset (mset (mset M 17 (Z.N 1) ui) 18 (Z.N 1) uf) 19 (Z.N 1) ud) 25 (Z.N 1) (-1)) 16 0 (nI (Z.N 1 + 1))).1 17 (Z.N 1) = ui := by
    rw [mset_k (by decide), mset_k (by decide), mset_k (by decide), mset_k (by decide), mset_s]
  have m18 : (mset (mset (mset (mset (mset M 17 (Z.N 1) ui) 18 (Z.N 1) uf) 19 (Z.N 1) ud) 25 (Z.N 1) (-1)) 16 0 (nI (Z.N 1 + 1))).1 18 (Z.N 1) = uf := by
    rw [mset_k (by decide), mset_k (by decide), mset_k (by decide), mset_s]
  have m19 : (mset (mset (mset (mset (mset M 17 (Z.N 1) ui) 18 (Z.N 1) uf) 19 (Z.N 1) ud) 25 (Z.N 1) (-1)) 16 0 (nI (Z.N 1 + 1))).1 19 (Z.N 1) = ud := by
    rw [mset_k (by decide), mset_k (by decide), mset_s]
  have m25 : (mset (mset (mset (mset (mset M 17 (Z.N 1) ui) 18 (Z.N 1) uf) 19 (Z.N 1) ud) 25 (Z.N 1) (-1)) 16 0 (nI (Z.N 1 + 1))).1 25 (Z.N 1) = -1 := by
    rw [mset_k (by decide), mset_s]
  have mk : (mset (mset (mset (mset (mset M 17 (Z.N 1) ui) 18 (Z.N 1) uf) 19 (Z.N 1) ud) 25 (Z.N 1) (-1)) 16 0 (nI (Z.N 1 + 1))).2 = M.2 := rfl
  generalize (mset (mset (mset (mset (mset M 17 (Z.N 1) ui) 18 (Z.N 1) uf) 19 (Z.N 1) ud) 25 (Z.N 1) (-1)) 16 0 (nI (Z.N 1 + 1))) = M' at m m16 m17 m18 m19 m25 mk ⊢
  have mK : ∀ k, k ≠ 16 → k ≠ 17 → k ≠ 18 → k ≠ 19 → k ≠ 25 → M'.1 k = M.1 k := fun k a b c d e => funext fun i => m k i a (by omega)
  obtain ⟨g1, g2, g4, g5, g6, g7, g8, g9, g10, g11, g12, g13, g14, g15⟩ := h
  obtain ⟨i1, i2, i3, i4, i5, i6, i7, i8⟩ := hI
  have z := g14 (Z.N 1) (Nat.le_refl _) (by omega)
  refine ⟨⟨hWZ, fun j => ?_, by rw [n2]; exact g4, ?_, ?_, ?_, ?_, ?_, fun p hq => ?_, fun j hj => ?_, fun g hg => ?_, fun i j hi hj hn hc => ?_, fun j a b => ?_, fun p a b => ?_⟩, ?_, ?_⟩
  · rw [o3]
    by_cases c : j = Z.N 1
    · rw [c, scs]; exact Nat.zero_le _
    · rw [sc j c]; exact g2 j
  · rw [so 0 0 (by omega) (by decide), m 0 0 (by decide) (by omega)]; exact g5
  · rw [so 0 0 (by omega) (by decide), m 1 0 (by decide) (by omega)]; exact g6
  · rw [so 0 0 (by omega) (by decide), m 2 0 (by decide) (by omega)]; exact g7
  · rw [m 0 0 (by decide) (by omega)]; exact g8
  · rw [m 2 0 (by decide) (by omega)]; exact g9
  · rw [n0] at hq
    rw [n1]
    have e := g10 p hq
    have c : ∀ b, cntOn M' p b (Z.N 1 + 1) = cntOn M p b (Z.N 1) := fun b => by
      show cntOn M' p b (Z.N 1) + iOn M' p b (Z.N 1) = _
      have e0 : iOn M' p b (Z.N 1) = 0 := if_neg (fun q => by
        rw [mK 20 (by decide) (by decide) (by decide) (by decide) (by decide), z.1] at q
        exact absurd q.1 (by decide))
      rw [e0, cnt_k (M := M) (mK 20 (by decide) (by decide) (by decide) (by decide) (by decide)) (mK 21 (by decide) (by decide) (by decide) (by decide) (by decide)) (mK 22 (by decide) (by decide) (by decide) (by decide) (by decide))]
      rfl
    have w : M_weights_f M' (nI p) (Z.N 1 + 1) = M_weights_f M (nI p) (Z.N 1) := by
      rw [wts_s (by omega)]
      have e0 : wOn M' p (Z.N 1) = 0 := if_neg (fun q => by
        rw [mK 20 (by decide) (by decide) (by decide) (by decide) (by decide), z.1] at q
        exact absurd q (by decide))
      rw [e0, Int32.add_zero]
      refine wts_eq _ (by omega) (fun i hi => ?_)
      unfold wOn
      rw [mK 20 (by decide) (by decide) (by decide) (by decide) (by decide), mK 21 (by decide) (by decide) (by decide) (by decide) (by decide), mK 24 (by decide) (by decide) (by decide) (by decide) (by decide), m 17 i (by decide) (by omega)]
    have f : ∀ k, 4 ≤ k → k ≤ 15 → M'.1 k = M.1 k := fun k a b => mK k (by omega) (by omega) (by omega) (by omega) (by omega)
    unfold RP at e ⊢
    rw [so 1 p (by omega) (by decide), sk, mk, c, c, w, f 4 (by omega) (by omega), f 5 (by omega) (by omega), f 6 (by omega) (by omega), f 7 (by omega) (by omega), f 8 (by omega) (by omega), f 9 (by omega) (by omega), f 10 (by omega) (by omega), f 11 (by omega) (by omega), f 12 (by omega) (by omega), f 13 (by omega) (by omega), f 15 (by omega) (by omega)]
    exact e
  · rw [n1] at hj
    unfold RV
    rw [mK 20 (by decide) (by decide) (by decide) (by decide) (by decide), mK 21 (by decide) (by decide) (by decide) (by decide) (by decide), mK 22 (by decide) (by decide) (by decide) (by decide) (by decide), mK 23 (by decide) (by decide) (by decide) (by decide) (by decide), mK 24 (by decide) (by decide) (by decide) (by decide) (by decide)]
    by_cases c : j = Z.N 1
    · subst c
      rw [sp, sp, sp, sp, sp, sp, sp, m17, m18, m19, z.1, z.2.1, z.2.2.1, z.2.2.2.2, scs, m25]
      exact ⟨rfl, rfl, rfl, rfl, rfl, rfl, fun q => absurd q (by decide), Or.inl ⟨rfl, rfl, rfl⟩⟩
    · have e := g11 j (by omega)
      unfold RV at e
      rw [so 2 j (by omega) (by decide), sc j c, m 17 j (by decide) (by omega), m 18 j (by decide) (by omega), m 19 j (by decide) (by omega), m 25 j (by decide) (by omega), so 3 _ (by omega) (by decide)]
      exact e
  · have e := g12 g hg
    unfold RG at e ⊢
    rw [n2, so 5 3 (by omega) (by decide), so 5 4 (by omega) (by decide), so 5 5 (by omega) (by decide), mK 26 (by decide) (by decide) (by decide) (by decide) (by decide), mK 27 (by decide) (by decide) (by decide) (by decide) (by decide), mK 28 (by decide) (by decide) (by decide) (by decide) (by decide), sumLd_eq (S := S) (S' := S') (funext fun i => so 3 i (by omega) (by decide))]
    exact e
  · rw [n1] at hi hj
    by_cases c : i = Z.N 1
    · rw [c, scs] at hc
      exact absurd rfl hc
    · rw [sc i c] at hc ⊢
      by_cases d : j = Z.N 1
      · rw [d, scs]; exact hc
      · rw [sc j d]; exact g13 i j (by omega) (by omega) hn hc
  · rw [n1] at a
    rw [mK 20 (by decide) (by decide) (by decide) (by decide) (by decide), mK 21 (by decide) (by decide) (by decide) (by decide) (by decide), mK 22 (by decide) (by decide) (by decide) (by decide) (by decide), mK 23 (by decide) (by decide) (by decide) (by decide) (by decide), mK 24 (by decide) (by decide) (by decide) (by decide) (by decide)]
    exact g14 j (by omega) b
  · rw [n0] at a
    rw [mK 7 (by decide) (by decide) (by decide) (by decide) (by decide), mK 8 (by decide) (by decide) (by decide) (by decide) (by decide), mK 9 (by decide) (by decide) (by decide) (by decide) (by decide), mK 10 (by decide) (by decide) (by decide) (by decide) (by decide), mK 11 (by decide) (by decide) (by decide) (by decide) (by decide), mK 12 (by decide) (by decide) (by decide) (by decide) (by decide), mk]
    exact g15 p a b
  · rw [n0, n1]
    refine ⟨⟨by rw [mK 3 (by decide) (by decide) (by decide) (by decide) (by decide)]; exact i1.1, i1.2.1, m16, by omega⟩, fun j hj => ?_, fun j hj => ?_, fun i hi => ?_, fun i hi => ?_, ?_, i7, fun _ => hp⟩
    · rw [mK 24 (by decide) (by decide) (by decide) (by decide) (by decide)] at hj
      by_cases c : j = Z.N 1
      · rw [c, z.2.2.2.2] at hj
        exact absurd (show (0 : Int32) ≤ 0 by decide) hj
      · rw [m 25 j (by decide) (by omega)]
        exact i2 j hj
    · unfold VIv
      rw [mK 20 (by decide) (by decide) (by decide) (by decide) (by decide), mK 21 (by decide) (by decide) (by decide) (by decide) (by decide), mK 22 (by decide) (by decide) (by decide) (by decide) (by decide), mK 24 (by decide) (by decide) (by decide) (by decide) (by decide)]
      by_cases c : j = Z.N 1
      · subst c
        rw [m17, m18, m19, z.1, z.2.1, z.2.2.1, z.2.2.2.2]
        exact ⟨Or.inl rfl, h5, h6, h7, ⟨by decide, by decide⟩, 0, rfl, Nat.zero_le _, fun _ => rfl, fun q => absurd q (by decide), fun q => absurd q (by decide), fun q => absurd q (by decide)⟩
      · rw [m 17 j (by decide) (by omega), m 18 j (by decide) (by omega), m 19 j (by decide) (by omega)]
        exact i3 j (by omega)
    · unfold PCv
      rw [mK 13 (by decide) (by decide) (by decide) (by decide) (by decide), mK 6 (by decide) (by decide) (by decide) (by decide) (by decide), mK 5 (by decide) (by decide) (by decide) (by decide) (by decide)]
      exact i4 i hi
    · unfold FZp
      rw [mK 7 (by decide) (by decide) (by decide) (by decide) (by decide), mK 8 (by decide) (by decide) (by decide) (by decide) (by decide), mK 9 (by decide) (by decide) (by decide) (by decide) (by decide), mK 10 (by decide) (by decide) (by decide) (by decide) (by decide)]
      exact i5 i hi
    · rw [mK 1 (by decide) (by decide) (by decide) (by decide) (by decide)]
      exact i6
  · rw [n1]
    intro g hg
    have e : car M' (Z.N 1 + 1) = car M (Z.N 1) := by
      show car M' (Z.N 1) + (M'.1 24 (Z.N 1)).toInt = _
      rw [mK 24 (by decide) (by decide) (by decide) (by decide) (by decide), z.2.2.2.2, car_eq (M := M) (M' := M') _ (fun i _ => by rw [mK 24 (by decide) (by decide) (by decide) (by decide) (by decide)]), Int32.toInt_zero, Int.add_zero]
    rw [e, mK 27 (by decide) (by decide) (by decide) (by decide) (by decide)]
    exact hB g hg
