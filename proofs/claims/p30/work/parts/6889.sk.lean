/-! ===== a load is made; the calls that make something ===== -/
theorem load_ok {Z : XZ} {S : XS} {M : MS} {t h1 h2 j g : Nat} {uk : Int32} (h : RXA Z S M t) (ht : t < 512) (hj : j < Z.N 1) (hg : g < 3) (hw : M.1 20 j = 0) (hc : S.2.2 j = 0) (hk : rng uk 1 60000) : RXA (zA Z 2 h1 h2) (X_loadS Z S h1 j (nI g) uk) (mset (mset (mset M 24 j uk) 25 j (nI g)) 26 g (M.1 26 g + uk)) (t + 1) := by
  obtain ⟨h, hI, hB⟩ := h
  have hN2 : Z.N 2 ≤ t := h.2.2.1
  have hO : Z.O 3 = Z.N 2 := h.1.2.2.1.symm
  have hnv := h.nv
  have n2 : (zA Z 2 h1 h2).N 2 = Z.N 2 + 1 := by rw [zA_N]; exact if_pos rfl
  have n0 : (zA Z 2 h1 h2).N 0 = Z.N 0 := by rw [zA_N, if_neg (by decide)]
  have n1 : (zA Z 2 h1 h2).N 1 = Z.N 1 := by rw [zA_N, if_neg (by decide)]
  have o3 : (zA Z 2 h1 h2).O 3 = Z.N 2 + 1 := by rw [zA_O, if_pos rfl, hO]
  have hWZ := WZ_add (h1 := h1) (h2 := h2) h.1 (show 2 < 3 by decide) (fun z => absurd z (by decide)) (fun z => absurd z (by decide)) (fun _ => by omega)
  have hcg : (nI g).toNatClampNeg = g := nI_clamp (by omega)
  have ev := h.v hj
  have m24 : M.1 24 j = 0 := by
    rcases ev.2.2.2.2.2.2.2 with ⟨-, b, -⟩ | ⟨a, -⟩
    · exact b
    · exact absurd hc a
  have eS : (X_loadS Z S h1 j (nI g) uk) = xset (xcset (xset (X_iLoad (zO Z 3 h1) (xz S 3 (Z.N 2)) (Z.N 2) (nI g) uk) 6 2 0 ((X_iLoad (zO Z 3 h1) (xz S 3 (Z.N 2)) (Z.N 2) (nI g) uk).1 6 2 0 + 1)) j (Z.N 2 + 1)) 5 3 g (S.1 5 3 g + uk) := by
    unfold X_loadS
    simp only [hO, hcg, xcset_1]
    congr 2
  have so : ∀ k i, ¬ (k = 3 ∧ i = Z.N 2) → k ≠ 5 → k ≠ 6 → (X_loadS Z S h1 j (nI g) uk).1 k i = S.1 k i := fun k i a b c => by
    rw [eS, xset_k (fun z => b z.1), xcset_1, xset_k (fun z => c z.1)]
    unfold X_iLoad
    simp only [xset_k a, xz_n a]
  have s5 : ∀ i f, ¬ (i = 3 ∧ f = g) → (X_loadS Z S h1 j (nI g) uk).1 5 i f = S.1 5 i f := fun i f a => by
    rw [eS, xset_n (by omega), xcset_1, xset_n (by omega)]
    unfold X_iLoad
    simp only [xset_k (show ¬ ((5 : Nat) = 3 ∧ i = Z.N 2) from fun z => absurd z.1 (by decide)), xz_n (show ¬ ((5 : Nat) = 3 ∧ i = Z.N 2) from fun z => absurd z.1 (by decide))]
  have s5g : (X_loadS Z S h1 j (nI g) uk).1 5 3 g = S.1 5 3 g + uk := by rw [eS, xset_s]
  have s30 : (X_loadS Z S h1 j (nI g) uk).1 3 (Z.N 2) 0 = nI g := by
    rw [eS, xset_n (by omega), xcset_1, xset_n (by omega)]
    unfold X_iLoad
    dsimp only
    rw [xset_n (by omega), xset_s]
  have s31 : (X_loadS Z S h1 j (nI g) uk).1 3 (Z.N 2) 1 = uk := by
    rw [eS, xset_n (by omega), xcset_1, xset_n (by omega)]
    unfold X_iLoad
    dsimp only
    rw [xset_s]
  have s32 : (X_loadS Z S h1 j (nI g) uk).1 3 (Z.N 2) 2 = 0 := by
    rw [eS, xset_n (by omega), xcset_1, xset_n (by omega)]
    unfold X_iLoad
    dsimp only
    rw [xset_n (by omega), xset_n (by omega), xset_s]
  have sk : (X_loadS Z S h1 j (nI g) uk).2.1 = S.2.1 := by rw [eS]; exact xz_kk (S := S) (k := 3) (i := Z.N 2) (by decide)
  have sc : ∀ i, i ≠ j → (X_loadS Z S h1 j (nI g) uk).2.2 i = S.2.2 i := fun i hi => by
    rw [eS]
    exact (if_neg hi).trans (congrFun (xz_c (S := S) (k := 3) (i := Z.N 2) (by decide)) i)
  have scs : (X_loadS Z S h1 j (nI g) uk).2.2 j = Z.N 2 + 1 := by rw [eS]; exact if_pos rfl
  generalize (X_loadS Z S h1 j (nI g) uk) = S' at so s5 s5g s30 s31 s32 sk sc scs ⊢
  have mK : ∀ k, k ≠ 24 → k ≠ 25 → k ≠ 26 → (mset (mset (mset M 24 j uk) 25 j (nI g)) 26 g (M.1 26 g + uk)).1 k = M.1 k := fun k a b c => by
    rw [mset_k c, mset_k b, mset_k a]
  have mo : ∀ k i, i ≠ j → k ≠ 26 → (mset (mset (mset M 24 j uk) 25 j (nI g)) 26 g (M.1 26 g + uk)).1 k i = M.1 k i := fun k i a b => by
    rw [mset_k b, mset_j a, mset_j a]
  have e24 : (mset (mset (mset M 24 j uk) 25 j (nI g)) 26 g (M.1 26 g + uk)).1 24 j = uk := by rw [mset_k (by decide), mset_k (by decide), mset_s]
  have e25 : (mset (mset (mset M 24 j uk) 25 j (nI g)) 26 g (M.1 26 g + uk)).1 25 j = nI g := by rw [mset_k (by decide), mset_s]
  have e26 : (mset (mset (mset M 24 j uk) 25 j (nI g)) 26 g (M.1 26 g + uk)).1 26 g = M.1 26 g + uk := mset_s
  have o26 : ∀ i, i ≠ g → (mset (mset (mset M 24 j uk) 25 j (nI g)) 26 g (M.1 26 g + uk)).1 26 i = M.1 26 i := fun i hi => by
    rw [mset_j hi, mset_k (by decide), mset_k (by decide)]
  have mk : (mset (mset (mset M 24 j uk) 25 j (nI g)) 26 g (M.1 26 g + uk)).2 = M.2 := rfl
  generalize (mset (mset (mset M 24 j uk) 25 j (nI g)) 26 g (M.1 26 g + uk)) = M' at mK mo e24 e25 e26 o26 mk ⊢
  obtain ⟨g1, g2, g4, g5, g6, g7, g8, g9, g10, g11, g12, g13, g14, g15⟩ := h
  obtain ⟨k1, k2⟩ := hk
  have hcode : ∀ i, S.2.2 i ≤ Z.N 2 := fun i => by rw [← hO]; exact g2 i
  refine ⟨⟨hWZ, fun i => ?_, by rw [n2]; omega, ?_, ?_, ?_, ?_, ?_, fun p hq => ?_, fun i hi => ?_, fun i hi => ?_, fun i i2 hi hi2 hn hcc => ?_, fun i a b => ?_, fun p a b => ?_⟩, ?_, ?_⟩
  · rw [o3]
    by_cases c : i = j
    · rw [c, scs]; exact Nat.le_refl _
    · rw [sc i c]; have := hcode i; omega
  · rw [so 0 0 (by omega) (by decide) (by decide), mK 0 (by decide) (by decide) (by decide)]; exact g5
  · rw [so 0 0 (by omega) (by decide) (by decide), mK 1 (by decide) (by decide) (by decide)]; exact g6
  · rw [so 0 0 (by omega) (by decide) (by decide), mK 2 (by decide) (by decide) (by decide)]; exact g7
  · rw [mK 0 (by decide) (by decide) (by decide)]; exact g8
  · rw [mK 2 (by decide) (by decide) (by decide)]; exact g9
  · rw [n0] at hq
    rw [n1]
    have e := g10 p hq
    have c : ∀ b, cntOn M' p b (Z.N 1) = cntOn M p b (Z.N 1) := fun b => cnt_k (mK 20 (by decide) (by decide) (by decide)) (mK 21 (by decide) (by decide) (by decide)) (mK 22 (by decide) (by decide) (by decide))
    have w : M_weights_f M' (nI p) (Z.N 1) = M_weights_f M (nI p) (Z.N 1) := wts_eq _ hnv (fun i hi => by
      unfold wOn
      rw [mK 20 (by decide) (by decide) (by decide), mK 21 (by decide) (by decide) (by decide), mK 17 (by decide) (by decide) (by decide)]
      by_cases c : i = j
      · subst c
        rw [hw, if_neg (by decide), if_neg (by decide)]
      · rw [mo 24 i c (by decide)])
    have f : ∀ k, k ≤ 15 → M'.1 k = M.1 k := fun k b => mK k (by omega) (by omega) (by omega)
    unfold RP at e ⊢
    rw [so 1 p (by omega) (by decide) (by decide), sk, mk, c, c, w, f 4 (by omega), f 5 (by omega), f 6 (by omega), f 7 (by omega), f 8 (by omega), f 9 (by omega), f 10 (by omega), f 11 (by omega), f 12 (by omega), f 13 (by omega), f 15 (by omega)]
    exact e
  · rw [n1] at hi
    have e := g11 i hi
    unfold RV at e ⊢
    rw [so 2 i (by omega) (by decide) (by decide), mK 17 (by decide) (by decide) (by decide), mK 18 (by decide) (by decide) (by decide), mK 19 (by decide) (by decide) (by decide), mK 20 (by decide) (by decide) (by decide), mK 21 (by decide) (by decide) (by decide), mK 22 (by decide) (by decide) (by decide), mK 23 (by decide) (by decide) (by decide)]
    refine ⟨e.1, e.2.1, e.2.2.1, e.2.2.2.1, e.2.2.2.2.1, e.2.2.2.2.2.1, e.2.2.2.2.2.2.1, ?_⟩
    by_cases c : i = j
    · subst c
      rw [scs, e24, e25]
      refine Or.inr ⟨Nat.succ_ne_zero _, ?_, ?_, ?_, by omega⟩
      · exact s30
      · exact s31
      · exact s32
    · rw [sc i c, mo 24 i c (by decide), mo 25 i c (by decide)]
      rcases e.2.2.2.2.2.2.2 with d | d
      · exact Or.inl d
      · refine Or.inr ?_
        have := hcode i
        have d0 := d.1
        rw [so 3 (S.2.2 i - 1) (by omega) (by decide) (by decide)]
        exact d
  · have e := g12 i hi
    have l : sumLd S' (nI i) (Z.N 2 + 1) = sumLd S (nI i) (Z.N 2) + (if i = g then uk else 0) := by
      show sumLd S' (nI i) (Z.N 2) + lOn S' (nI i) (Z.N 2) = _
      rw [sumLd_n (S := S) (S' := S') (Z.N 2) (fun q hq => by
        unfold lOn
        rw [so 3 q (by omega) (by decide) (by decide)])]
      congr 1
      unfold lOn
      rw [s30, s31, s32]
      by_cases c : i = g
      · rw [if_pos ⟨by rw [c], rfl⟩, if_pos c]
      · rw [if_neg (fun z => c ((nI_eq (by omega) (by omega)).mp z.1).symm), if_neg c]
    obtain ⟨a1, a2, a3, a4, a5, a6⟩ := e
    refine ⟨?_, ?_, ?_, ?_, ?_, ?_⟩
    · by_cases c : i = g
      · subst c
        rw [s5g, e26, a1]
      · rw [s5 3 i (fun z => c z.2), o26 i c]; exact a1
    · rw [s5 4 i (fun z => absurd z.1 (by decide)), mK 27 (by decide) (by decide) (by decide)]; exact a2
    · rw [s5 5 i (fun z => absurd z.1 (by decide)), mK 28 (by decide) (by decide) (by decide)]; exact a3
    · rw [n2, l, a4]
      by_cases c : i = g
      · subst c
        rw [if_pos rfl, e26]
      · rw [if_neg c, Int32.add_zero, o26 i c]
    · rw [mK 27 (by decide) (by decide) (by decide)]; exact ⟨a5.1, by have := a5.2; omega⟩
    · rw [mK 28 (by decide) (by decide) (by decide)]; exact a6
  · rw [n1] at hi hi2
    by_cases c : i = j
    · rw [c, scs]
      rw [sc i2 (fun z => hn (c.trans z.symm))]
      have := hcode i2
      omega
    · rw [sc i c] at hcc ⊢
      by_cases d : i2 = j
      · rw [d, scs]
        have := hcode i
        omega
      · rw [sc i2 d]
        exact g13 i i2 hi hi2 hn hcc
  · rw [n1] at a
    have c : i ≠ j := by omega
    rw [mK 20 (by decide) (by decide) (by decide), mK 21 (by decide) (by decide) (by decide), mK 22 (by decide) (by decide) (by decide), mK 23 (by decide) (by decide) (by decide), mo 24 i c (by decide)]
    exact g14 i a b
  · rw [n0] at a
    rw [mK 7 (by decide) (by decide) (by decide), mK 8 (by decide) (by decide) (by decide), mK 9 (by decide) (by decide) (by decide), mK 10 (by decide) (by decide) (by decide), mK 11 (by decide) (by decide) (by decide), mK 12 (by decide) (by decide) (by decide), mk]
    exact g15 p a b
  · rw [n0, n1]
    refine MI_vv (j := j) (MI_t hI ht) (fun k hk => mK k (by omega) (by omega) (by omega)) (fun k i _ hk _ hi => mo k i hi (by omega)) (fun hj => ?_) (fun _ => ?_)
    · have e := hI.2.2.1 j hj
      unfold VIv at e ⊢
      rw [mK 22 (by decide) (by decide) (by decide), mK 17 (by decide) (by decide) (by decide), mK 18 (by decide) (by decide) (by decide), mK 19 (by decide) (by decide) (by decide), mK 21 (by decide) (by decide) (by decide), mK 20 (by decide) (by decide) (by decide), e24]
      exact ⟨e.1, e.2.1, e.2.2.1, e.2.2.2.1, ⟨by omega, k2⟩, e.2.2.2.2.2⟩
    · rw [e25]
      exact vp_in_nI hg (by decide)
  · rw [n1]
    intro i hi
    have c := car_one (M := M) (M' := M') (j := j) (Z.N 1) hj (fun i _ hn => mo 24 i hn (by decide))
    rw [m24, e24, Int32.toInt_zero] at c
    rw [mK 27 (by decide) (by decide) (by decide)]
    obtain ⟨b1, b2⟩ := hB i hi
    exact ⟨b1, by omega⟩
theorem three_R {Z : XZ} {S : XS} {M : MS} {x y z a b c d e f : Int32} : (X_needRange Z S x a b = none ∧ X_needRange Z S y c d = none ∧ X_needRange Z S z e f = none ∧ M_isIn M x a b ∧ M_isIn M y c d ∧ M_isIn M z e f) ∨ ((X_needRange Z S x a b = some EIAE ∨ (X_needRange Z S x a b = none ∧ (X_needRange Z S y c d = some EIAE ∨ (X_needRange Z S y c d = none ∧ X_needRange Z S z e f = some EIAE)))) ∧ ¬ (M_isIn M x a b ∧ (M_isIn M y c d ∧ M_isIn M z e f))) := by
  rcases nR_iff (Z := Z) (S := S) (M := M) (x := x) (a := a) (b := b) with ⟨c1, c2⟩ | ⟨c1, c2⟩
  · rcases nR_iff (Z := Z) (S := S) (M := M) (x := y) (a := c) (b := d) with ⟨d1, d2⟩ | ⟨d1, d2⟩
    · rcases nR_iff (Z := Z) (S := S) (M := M) (x := z) (a := e) (b := f) with ⟨e1, e2⟩ | ⟨e1, e2⟩
      · exact Or.inl ⟨c1, d1, e1, c2, d2, e2⟩
      · exact Or.inr ⟨Or.inr ⟨c1, Or.inr ⟨d1, e1⟩⟩, fun q => e2 q.2.2⟩
    · exact Or.inr ⟨Or.inr ⟨c1, Or.inl d1⟩, fun q => d2 q.2.1⟩
  · exact Or.inr ⟨Or.inl c1, fun q => c2 q.1⟩
theorem st_piece {Z : XZ} {S : XS} {M : MS} {t : Nat} (h : RXA Z S M t) (ht : t < 512) (ui uf ud : Int32) : SA (X_piece Z S ui uf ud) (nI (Z.N 0)) (M_piece M ui uf ud).1 (M_piece M ui uf ud).2 (cdL EIAE EISE) (∀ h1 h2 : Nat, RXA (zA Z 0 h1 h2) (xset (X_iPiece (zO Z 1 h1) (xz S 1 (Z.O 1)) (Z.O 1) ui uf ud) 6 0 0 ((X_iPiece (zO Z 1 h1) (xz S 1 (Z.O 1)) (Z.O 1) ui uf ud).1 6 0 0 + 1)) (M_piece M ui uf ud).2 (t + 1)) (RXA Z S (M_piece M ui uf ud).2 (t + 1)) := by
  unfold X_piece M_piece
  have hnp := h.1.np
  have hnv := h.1.nv
  have e3 : M.1 3 0 = nI (Z.N 0) := h.2.1.1.1
  have e16 : M.1 16 0 = nI (Z.N 1) := h.2.1.1.2.2.1
  rcases three_R (Z := Z) (S := S) (M := M) (x := ui) (a := 0) (b := 2) (y := uf) (c := 1) (d := 20000) (z := ud) (e := 1) (f := 999) with ⟨c1, c2, c3, d1, d2, d3⟩ | ⟨c1, c2⟩
  · rw [if_pos c1, if_pos c2, if_pos c3, if_pos (c := M_isIn M ui 0 2 ∧ (M_isIn M uf 1 20000 ∧ M_isIn M ud 1 999)) ⟨d1, d2, d3⟩, e3, e16]
    by_cases k : Z.N 0 = 10
    · rw [if_pos (show nI (Z.N 0) = 10 by rw [k]; rfl), if_pos (show 10 ≤ nI (Z.N 0) by rw [k]; decide)]
      exact SA_bad h ht rfl (cdL_2 (by decide))
    · rw [if_neg (show ¬ nI (Z.N 0) = 10 from fun z => k ((nI_eq (b := 10) (by omega) (by decide)).mp z)), if_neg (show ¬ 10 ≤ nI (Z.N 0) from fun z => by have := (nI_leI (a := 10) (by decide) (by omega)).mp z; omega)]
      by_cases v : Z.N 1 = 0
      · rw [if_pos (show nI (Z.N 1) ≤ 0 by rw [v]; decide), if_pos (show nI (Z.N 1) = 0 by rw [v]; rfl)]
        have h1 := RXA_29 (j := 0) (v := 0) h
        have q29 : (mset M 29 0 0).1 3 0 = nI (Z.N 0) := by rw [mset_k (by decide)]; exact e3
        have hcn : (nI (Z.N 0)).toNatClampNeg = Z.N 0 := nI_clamp (by omega)
        have hcn2 : (nI (2 * Z.N 0)).toNatClampNeg = 2 * Z.N 0 := nI_clamp (by omega)
        have hcn3 : (nI (2 * Z.N 0 + 1)).toNatClampNeg = 2 * Z.N 0 + 1 := nI_clamp (by omega)
        simp only [q29, mset_k (show (3 : Nat) ≠ 4 by decide), mset_k (show (3 : Nat) ≠ 5 by decide), mset_k (show (3 : Nat) ≠ 6 by decide), mset_k (show (3 : Nat) ≠ 13 by decide), mset_k (show (3 : Nat) ≠ 15 by decide), hcn, nI_two, nI_1, hcn2, hcn3, mset_s, nI_pred]
        have r2 := rg_of d2
        have r3 := rg_of d3
        refine Or.inl ⟨rfl, ?_, rfl, fun h1' h2' => RXA_t (piece_ok h1 v (by omega) r2 r3) ht⟩
        rw [mset_k (by decide), mset_k (by decide), mset_k (by decide), mset_k (by decide), mset_k (by decide), mset_k (by decide), mset_k (by decide), mset_s]
      · rw [if_neg (show ¬ nI (Z.N 1) ≤ 0 from nI_nle (by omega) (by omega)), if_neg (show ¬ nI (Z.N 1) = 0 from nI_ne0 (by omega) (by omega))]
        exact SA_bad h ht rfl (cdL_2 (by decide))
  · rw [if_neg c2]
    rcases c1 with c1 | ⟨c1, c1' | ⟨c1', c1''⟩⟩
    · rw [if_neg (nn_none c1)]
      exact SA_bad h ht c1 cdL_1
    · rw [if_pos c1, if_neg (nn_none c1')]
      exact SA_bad h ht c1' cdL_1
    · rw [if_pos c1, if_pos c1', if_neg (nn_none c1'')]
      exact SA_bad h ht c1'' cdL_1
theorem st_vehicle {Z : XZ} {S : XS} {M : MS} {t : Nat} (h : RXA Z S M t) (ht : t < 512) (ui uf ud : Int32) : SA (X_vehicle Z S ui uf ud) (nI (Z.N 1)) (M_vehicle M ui uf ud).1 (M_vehicle M ui uf ud).2 (cdL EIAE EISE) (∀ h1 h2 : Nat, RXA (zA Z 1 h1 h2) (xset (X_iVehicle (zO Z 2 h1) (xz S 2 (Z.O 2)) (Z.O 2) ui uf ud) 6 1 0 ((X_iVehicle (zO Z 2 h1) (xz S 2 (Z.O 2)) (Z.O 2) ui uf ud).1 6 1 0 + 1)) (M_vehicle M ui uf ud).2 (t + 1)) (RXA Z S (M_vehicle M ui uf ud).2 (t + 1)) := by
  unfold X_vehicle M_vehicle
  have hnp := h.1.np
  have hnv := h.1.nv
  have e3 : M.1 3 0 = nI (Z.N 0) := h.2.1.1.1
  have e16 : M.1 16 0 = nI (Z.N 1) := h.2.1.1.2.2.1
  rcases three_R (Z := Z) (S := S) (M := M) (x := ui) (a := 500) (b := 40000) (y := uf) (c := 0) (d := 60000) (z := ud) (e := 1) (f := 300) with ⟨c1, c2, c3, d1, d2, d3⟩ | ⟨c1, c2⟩
  · rw [if_pos c1, if_pos c2, if_pos c3, if_pos (c := M_isIn M ui 500 40000 ∧ (M_isIn M uf 0 60000 ∧ M_isIn M ud 1 300)) ⟨d1, d2, d3⟩, e3, e16]
    by_cases k : Z.N 1 = 16
    · rw [if_pos (show nI (Z.N 1) = 16 by rw [k]; rfl), if_pos (show 16 ≤ nI (Z.N 1) by rw [k]; decide)]
      exact SA_bad h ht rfl (cdL_2 (by decide))
    · rw [if_neg (show ¬ nI (Z.N 1) = 16 from fun z => k ((nI_eq (b := 16) (by omega) (by decide)).mp z)), if_neg (show ¬ 16 ≤ nI (Z.N 1) from fun z => by have := (nI_leI (a := 16) (by decide) (by omega)).mp z; omega)]
      by_cases v : Z.N 0 = 0
      · rw [if_pos (show nI (Z.N 0) = 0 by rw [v]; rfl), if_pos (show nI (Z.N 0) = 0 by rw [v]; rfl)]
        exact SA_bad h ht rfl (cdL_2 (by decide))
      · have n0 : ¬ nI (Z.N 0) = 0 := nI_ne0 (by omega) (by omega)
        rw [if_neg n0, if_neg n0]
        have h1 := RXA_29 (j := 0) (v := 0) h
        have q29 : (mset M 29 0 0).1 16 0 = nI (Z.N 1) := by rw [mset_k (by decide)]; exact e16
        have hcn : (nI (Z.N 1)).toNatClampNeg = Z.N 1 := nI_clamp (by omega)
        simp only [q29, mset_k (show (16 : Nat) ≠ 17 by decide), mset_k (show (16 : Nat) ≠ 18 by decide), mset_k (show (16 : Nat) ≠ 19 by decide), mset_k (show (16 : Nat) ≠ 25 by decide), hcn, nI_1, mset_s, nI_pred]
        have r1 := rg_of d1
        have r2 := rg_of d2
        have r3 := rg_of d3
        refine Or.inl ⟨rfl, ?_, rfl, fun h1' h2' => RXA_t (vehicle_ok h1 (by omega) (by omega) r1 r2 r3) ht⟩
        rw [mset_k (by decide), mset_k (by decide), mset_k (by decide), mset_k (by decide), mset_k (by decide), mset_s]
  · rw [if_neg c2]
    rcases c1 with c1 | ⟨c1, c1' | ⟨c1', c1''⟩⟩
    · rw [if_neg (nn_none c1)]
      exact SA_bad h ht c1 cdL_1
    · rw [if_pos c1, if_neg (nn_none c1')]
      exact SA_bad h ht c1' cdL_1
    · rw [if_pos c1, if_pos c1', if_neg (nn_none c1'')]
      exact SA_bad h ht c1'' cdL_1
theorem st_load {Z : XZ} {S : XS} {M : MS} {t : Nat} (h : RXA Z S M t) (ht : t < 512) (uv ug uk : Int32) : (X_load Z S uv ug uk = none ∧ (M_load M uv ug uk).2.1 29 0 = 0 ∧ ∀ h1 h2 : Nat, X_weight (zA Z 2 h1 h2) (X_loadS Z S h1 uv.toNatClampNeg ug uk) uv.toNatClampNeg = (M_load M uv ug uk).1 ∧ RXA (zA Z 2 h1 h2) (X_loadS Z S h1 uv.toNatClampNeg ug uk) (M_load M uv ug uk).2 (t + 1)) ∨ ∃ E, X_load Z S uv ug uk = some E ∧ (M_load M uv ug uk).2.1 29 0 = cdL EIOB EIAE E ∧ RXA Z S (M_load M uv ug uk).2 (t + 1) := by
  have bad : ∀ (T : Option String) (E : String) (n : Int32), T = some E → cdL EIOB EIAE E = n → ∃ E, T = some E ∧ (mset M 29 0 n).1 29 0 = cdL EIOB EIAE E ∧ RXA Z S (mset M 29 0 n) (t + 1) := fun T E n a b => ⟨E, a, by rw [mset_s]; exact b.symm, RXA_t (RXA_29 h) ht⟩
  unfold X_load M_load
  rcases vN_iff (Z := Z) (S := S) (M := M) (x := uv) h.2.1.1 with ⟨c1, c2, j, hj, rfl⟩ | ⟨c1, c2⟩
  · rcases gN_iff (Z := Z) (S := S) (M := M) (x := ug) with ⟨d1, d2, g, hg, rfl⟩ | ⟨d1, d2⟩
    · rw [if_pos c1, if_pos d1, if_pos (c := M_isVehicle M (nI j) ∧ M_isGoods M (nI g)) ⟨c2, d2⟩]
      have hcj : (nI j).toNatClampNeg = j := nI_clamp (by have := h.1.nv; omega)
      have hcg : (nI g).toNatClampNeg = g := nI_clamp (by omega)
      have ev := h.1.v hj
      have e1 : S.1 2 (nI j).toNatClampNeg 1 = M.1 18 (nI j).toNatClampNeg := by rw [hcj]; exact ev.2.1
      have e3 : S.1 2 (nI j).toNatClampNeg 3 = M.1 20 (nI j).toNatClampNeg := by rw [hcj]; exact ev.2.2.2.1
      rw [e1]
      rcases nR_iff (Z := Z) (S := S) (M := M) (x := uk) (a := 1) (b := M.1 18 (nI j).toNatClampNeg) with ⟨f1, f2⟩ | ⟨f1, f2⟩
      · rw [if_pos f1, if_pos (c := (M_isVehicle M (nI j) ∧ M_isGoods M (nI g)) ∧ M_isIn M uk 1 (M.1 18 (nI j).toNatClampNeg)) ⟨⟨c2, d2⟩, f2⟩, e3]
        by_cases w : M.1 20 (nI j).toNatClampNeg = 0
        · rw [if_pos w, if_pos w]
          by_cases k : S.2.2 (nI j).toNatClampNeg = 0
          · have hk2 : S.2.2 j = 0 := by rw [← hcj]; exact k
            have k24 : M.1 24 (nI j).toNatClampNeg ≤ 0 := by
              rw [hcj]
              rcases ev.2.2.2.2.2.2.2 with ⟨-, b, -⟩ | ⟨a, -⟩
              · rw [b]; decide
              · exact absurd hk2 a
            have hn2 : Z.N 2 ≤ t := h.1.2.2.1
            rw [if_pos k, if_pos k24, if_pos (show nI (Z.N 2) < 512 from nI_lt (b := 512) (by omega) (by decide))]
            have h1 := RXA_29 (j := 0) (v := 0) h
            have r := rg_of f2
            have r18 := (h.2.1.2.2.1 j hj).2.2.1
            rw [hcj] at r w
            have w2 : (mset M 29 0 0).1 20 j = 0 := by rw [mset_k (by decide)]; exact w
            dsimp only
            rw [hcj, hcg, mset_k (show (26 : Nat) ≠ 25 by decide), mset_k (show (26 : Nat) ≠ 24 by decide)]
            refine Or.inl ⟨rfl, ?_, fun h1' h2' => ?_⟩
            · rw [mset_k (by decide), mset_k (by decide), mset_k (by decide), mset_s]
            · have q := load_ok (h1 := h1') (h2 := h2') h1 ht hj hg w2 hk2 (uk := uk) ⟨by have := r.1; rw [show (1 : Int32).toInt = 1 by decide] at this; exact this, by have := r.2; have := r18.2; omega⟩
              refine ⟨?_, q⟩
              rw [RV.wt (q.1.v (by rw [zA_N, if_neg (by decide)]; exact hj)), M_weight_j (by have := h.1.nv; omega)]
          · have k24 : ¬ M.1 24 (nI j).toNatClampNeg ≤ 0 := by
              rw [hcj] at k ⊢
              rcases ev.2.2.2.2.2.2.2 with ⟨a, -⟩ | ⟨-, -, -, -, a⟩
              · exact absurd a k
              · intro z
                rw [Int32.le_iff_toInt_le, Int32.toInt_zero] at z
                omega
            rw [if_neg k, if_neg k24]
            exact Or.inr (bad _ EISE 3 rfl (cdL_3 (by decide) (by decide)))
        · rw [if_neg w, if_neg w]
          exact Or.inr (bad _ EISE 3 rfl (cdL_3 (by decide) (by decide)))
      · rw [if_neg (nn_none f1), if_neg (fun z => f2 z.2)]
        exact Or.inr (bad _ EIAE 2 f1 (cdL_2 (by decide)))
    · rw [if_pos c1, if_neg (nn_none d1), if_neg (fun z => d2 z.2)]
      exact Or.inr (bad _ EIOB 1 d1 cdL_1)
  · rw [if_neg (nn_none c1), if_neg (fun z => c2 z.1)]
    exact Or.inr (bad _ EIOB 1 c1 cdL_1)
