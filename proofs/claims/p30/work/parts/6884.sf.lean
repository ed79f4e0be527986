/-! ===== flood, snow, order, go, turn ===== -/
theorem ice_iff {Z : XZ} {S : XS} {M : MS} {np nv t p : Nat} (h : MI M np nv t) (hp : p < np) (e3 : S.1 1 p 3 = M.1 7 p) (e4 : S.1 1 p 4 = M.1 8 p) : X_hasIce Z S p ↔ ¬ (M.1 7 p + M.1 8 p ≤ 0) := by
  obtain ⟨b, wh, wa, sn, f1, f2, f3, f4, g1, g2, g3, g4⟩ := fz_data h hp
  unfold X_hasIce
  rw [e3, e4, f1, f2, nI_add]
  have a1 : (0 : Int32) < nI b ↔ 0 < b := nI_ltI (a := 0) (by decide) (by omega)
  have a2 : nI wh ≤ 0 ↔ wh ≤ 0 := nI_leI (b := 0) (by omega) (by decide)
  have a3 : nI (b + wh) ≤ 0 ↔ b + wh ≤ 0 := nI_leI (b := 0) (by omega) (by decide)
  rw [a1, a2, a3]
  omega
theorem st_flood {Z : XZ} {S : XS} {M : MS} {t : Nat} (h : RXA Z S M t) (ht : t < 512) (up uk : Int32) : SA (X_flood Z S up uk).1 (X_flood Z S up uk).2.1 (M_flood M up uk).1 (M_flood M up uk).2 (cdL EIOB EIAE) (RXA Z (X_flood Z S up uk).2.2 (M_flood M up uk).2 (t + 1)) (RXA Z S (M_flood M up uk).2 (t + 1)) := by
  unfold X_flood M_flood
  rcases pN_iff (Z := Z) (S := S) (M := M) (x := up) h.2.1.1 with ⟨c1, c2, q, hq, rfl⟩ | ⟨c1, c2⟩
  · rw [if_pos c1, if_pos c2]
    rcases nR_iff (Z := Z) (S := S) (M := M) (x := uk) (a := 1) (b := 100) with ⟨d1, d2⟩ | ⟨d1, d2⟩
    · rw [if_pos d1, if_pos d2]
      have h1 := RXA_29 (j := 0) (v := 0) h
      have hcq : (nI q).toNatClampNeg = q := nI_clamp (by have := h.1.np; omega)
      have ep := h.1.p hq
      have ice := ice_iff (Z := Z) (S := S) h.2.1 hq (ep.f 3 (by omega) (by omega)) (ep.f 4 (by omega) (by omega))
      have e5 : S.1 1 q 5 = M.1 9 q := ep.f 5 (by omega) (by omega)
      have ew : X_isWaterPiece Z S q ↔ M_isWater M (nI q) := by
        unfold X_isWaterPiece M_isWater
        rw [hcq, ep.1]
      have e5c : S.1 1 (nI q).toNatClampNeg 5 = M.1 9 (nI q).toNatClampNeg := by rw [hcq]; exact e5
      have iceC : X_hasIce Z S (nI q).toNatClampNeg ↔ ¬ (M.1 7 (nI q).toNatClampNeg + M.1 8 (nI q).toNatClampNeg ≤ 0) := by rw [hcq]; exact ice
      have ewC : X_isWaterPiece Z S (nI q).toNatClampNeg ↔ M_isWater M (nI q) := by rw [hcq]; exact ew
      by_cases w : X_isWaterPiece Z S (nI q).toNatClampNeg
      · rw [if_pos w]
        by_cases i : X_hasIce Z S (nI q).toNatClampNeg
        · rw [if_pos i, e5c]
          by_cases s : M.1 9 (nI q).toNatClampNeg + uk ≤ 500
          · rw [if_pos s, if_pos ⟨c2, d2, ewC.mp w, iceC.mp i, fun z => i32_lt_le z s⟩]
            dsimp only
            rw [hcq]
            have e5' : (xset S 1 q 6 0).1 1 q 5 = M.1 9 q := by rw [xset_f (by decide)]; exact e5
            have m9' : (mset (mset M 29 0 0) 10 q 0).1 9 q = M.1 9 q := by rw [mset_k (by decide), mset_k (by decide)]
            rw [e5', m9']
            have ht1 : t + 1 ≤ 512 := by omega
            have r := rg_of d2
            rw [show (1 : Int32).toInt = 1 by decide, show (100 : Int32).toInt = 100 by decide] at r
            obtain ⟨f1, ⟨f2, f3, f4⟩, f5⟩ := h.2.1.2.2.2.2.1 q hq
            have ha : (M.1 9 q + uk).toInt = (M.1 9 q).toInt + uk.toInt := i32_addr (by have := r.1; omega) (by have := r.2; have := h.2.1.2.2.2.2.2.2.1; omega)
            refine Or.inl ⟨rfl, ?_, ?_, RXN_t (RXN_f (f := 5) (RXN_f (f := 6) h1.1 hq (by omega) (by omega)) hq (by omega) (by omega)), MI_wa (MI_sn (MI_t h1.2.1 ht) ⟨by decide, by rw [Int32.toInt_zero]; omega⟩) ?_ ?_, BI_t (BI_set (BI_set h1.2.2 (by decide) (by decide)) (by decide) (by decide))⟩
            · rw [mset_k (by decide), mset_k (by decide), mset_s]
            · rw [xset_s, mset_s]
            · rw [ha]; have := r.1; omega
            · rw [ha, mset_k (by decide), mset_k (by decide)]; have := r.2; omega
          · rw [if_neg s, if_neg (fun z => z.2.2.2.2 (i32_nle' s))]
            exact SA_bad h ht rfl (cdL_3 (by decide) (by decide))
        · rw [if_neg i, if_neg (fun z => i (iceC.mpr z.2.2.2.1))]
          exact SA_bad h ht rfl (cdL_3 (by decide) (by decide))
      · rw [if_neg w, if_neg (fun z => w (ewC.mpr z.2.2.1))]
        exact SA_bad h ht rfl (cdL_3 (by decide) (by decide))
    · rw [if_neg (nn_none d1), if_neg d2]
      exact SA_bad h ht d1 (cdL_2 (by decide))
  · rw [if_neg (nn_none c1), if_neg c2]
    exact SA_bad h ht c1 cdL_1
theorem snow_f {Z : XZ} {S : XS} {M : MS} {t : Nat} {uk : Int32} (h : RXA Z S M t) (ht : t < 512) (hu : rng uk 1 500) : ∀ n, n ≤ Z.N 0 → RXA Z (X_snow_f S Z uk n) (M_snow_f M uk n) (t + 1) ∧ (∀ k, k ≠ 10 → (M_snow_f M uk n).1 k = M.1 k) ∧ (∀ i, n ≤ i → (M_snow_f M uk n).1 10 i = M.1 10 i)
  | 0, _ => ⟨RXA_t h ht, fun _ _ => rfl, fun _ _ => rfl⟩
  | n + 1, hn => by
    obtain ⟨a, b, c⟩ := snow_f h ht hu n (by omega)
    have hnp := a.1.np
    have hcn : (nI n).toNatClampNeg = n := nI_clamp (by omega)
    have e6 : (X_snow_f S Z uk n).1 1 n 6 = (M_snow_f M uk n).1 10 n := (a.1.p (show n < Z.N 0 by omega)).f 6 (by omega) (by omega)
    have eX : X_snow_f S Z uk (n + 1) = xset (X_snow_f S Z uk n) 1 n 6 (M.1 10 n + uk) := by
      show xset (X_snow_f S Z uk n) 1 n 6 ((X_snow_f S Z uk n).1 1 n 6 + uk) = _
      rw [e6, c n (Nat.le_refl _)]
    have eM : M_snow_f M uk (n + 1) = mset (M_snow_f M uk n) 10 n (M.1 10 n + uk) := by
      show mset (M_snow_f M uk n) 10 (nI n).toNatClampNeg ((M_snow_f M uk n).1 10 (nI n).toNatClampNeg + uk) = _
      rw [hcn, c n (Nat.le_refl _)]
    obtain ⟨-, -, f⟩ := h.2.1.2.2.2.2.1 n (by omega)
    obtain ⟨u1, u2⟩ := hu
    have ha : (M.1 10 n + uk).toInt = (M.1 10 n).toInt + uk.toInt := i32_addr (by have := f.1; omega) (by have := f.2; omega)
    rw [eX, eM]
    refine ⟨⟨RXN_f (f := 6) a.1 (by omega) (by omega) (by omega), MI_sn a.2.1 ⟨by rw [ha]; have := f.1; omega, by rw [ha]; have := f.2; omega⟩, BI_set a.2.2 (by decide) (by decide)⟩, fun k hk => ?_, fun i hi => ?_⟩
    · rw [mset_k hk]; exact b k hk
    · rw [mset_j (by omega)]; exact c i (by omega)
theorem st_snow {Z : XZ} {S : XS} {M : MS} {t : Nat} (h : RXA Z S M t) (ht : t < 512) (uk : Int32) : SA (X_snow Z S uk).1 (X_snow Z S uk).2.1 (M_snow M uk).1 (M_snow M uk).2 (cdL EIAE "") (RXA Z (X_snow Z S uk).2.2 (M_snow M uk).2 (t + 1)) (RXA Z S (M_snow M uk).2 (t + 1)) := by
  unfold X_snow M_snow
  rcases nR_iff (Z := Z) (S := S) (M := M) (x := uk) (a := 1) (b := 500) with ⟨c1, c2⟩ | ⟨c1, c2⟩
  · rw [if_pos c1, if_pos c2]
    have h1 := RXA_29 (j := 0) (v := 0) h
    have e3 : ((mset M 29 0 0).1 3 0).toNatClampNeg = Z.N 0 := by
      rw [mset_k (by decide), h.2.1.1.1, nI_clamp (by have := h.1.np; omega)]
    obtain ⟨a, b, -⟩ := snow_f (uk := uk) h1 ht (rg_of c2) (Z.N 0) (Nat.le_refl _)
    dsimp only
    rw [e3]
    refine Or.inl ⟨rfl, ?_, ?_, a⟩
    · rw [b 29 (by decide), mset_s]
    · exact a.2.1.1.1.symm
  · rw [if_neg (nn_none c1), if_neg c2]
    exact SA_bad h ht c1 cdL_1
theorem RXN_28 {Z : XZ} {S : XS} {M : MS} {t g : Nat} {v : Int32} (h : RXN Z S M t) (hv : rng v 0 10000000) : RXN Z (xset S 5 5 g v) (mset M 28 g v) t := by
  obtain ⟨h1, h2, h4, h5, h6, h7, h8, h9, h10, h11, h12, h13, h14, h15⟩ := h
  have hv' : Z.N 1 ≤ 16 := h1.2.2.2.2.1
  have m : ∀ k', k' ≠ 28 → (mset M 28 g v).1 k' = M.1 k' := fun k' a => mset_k a
  have s : ∀ k', k' ≠ 5 → (xset S 5 5 g v).1 k' = S.1 k' := fun k' a => xset_kk a
  refine ⟨h1, h2, h4, ?_, ?_, ?_, ?_, ?_, fun p hp => ?_, fun j hj => ?_, fun i hi => ?_, h13, fun j a b => ?_, fun p a b => ?_⟩
  · rw [s 0 (by decide), m 0 (by decide)]; exact h5
  · rw [s 0 (by decide), m 1 (by decide)]; exact h6
  · rw [s 0 (by decide), m 2 (by decide)]; exact h7
  · rw [m 0 (by decide)]; exact h8
  · rw [m 2 (by decide)]; exact h9
  · have e := h10 p hp
    unfold RP at e ⊢
    rw [s 1 (by decide), m 4 (by omega), m 5 (by omega), m 6 (by omega), m 7 (by omega), m 8 (by omega), m 9 (by omega), m 10 (by omega), m 11 (by omega), m 12 (by omega), m 13 (by omega), m 15 (by omega), cnt_k (m 20 (by omega)) (m 21 (by omega)) (m 22 (by omega)), cnt_k (m 20 (by omega)) (m 21 (by omega)) (m 22 (by omega)), wts_k hv' (m 20 (by omega)) (m 21 (by omega)) (m 17 (by omega)) (m 24 (by omega))]
    exact e
  · have e := h11 j hj
    unfold RV at e ⊢
    rw [s 2 (by decide), s 3 (by decide), m 17 (by omega), m 18 (by omega), m 19 (by omega), m 20 (by omega), m 21 (by omega), m 22 (by omega), m 23 (by omega), m 24 (by omega), m 25 (by omega)]
    exact e
  · have e := h12 i hi
    obtain ⟨a, b, c, d, f1, f2⟩ := e
    refine ⟨?_, ?_, ?_, ?_, ?_, ?_⟩
    · rw [m 26 (by decide), xset_n (by omega)]; exact a
    · rw [m 27 (by decide), xset_n (by omega)]; exact b
    · by_cases q : i = g
      · subst q
        rw [xset_s, mset_s]
      · rw [xset_f q, mset_j q]; exact c
    · rw [m 26 (by decide), sumLd_eq (S := S) (S' := xset S 5 5 g v) (s 3 (by decide))]; exact d
    · rw [m 27 (by decide)]; exact f1
    · by_cases q : i = g
      · subst q
        rw [mset_s]; exact hv
      · rw [mset_j q]; exact f2
  · rw [m 20 (by omega), m 21 (by omega), m 22 (by omega), m 23 (by omega), m 24 (by omega)]
    exact h14 j a b
  · rw [m 7 (by omega), m 8 (by omega), m 9 (by omega), m 10 (by omega), m 11 (by omega), m 12 (by omega)]
    exact h15 p a b
theorem st_order {Z : XZ} {S : XS} {M : MS} {t : Nat} (h : RXA Z S M t) (ht : t < 512) (ug uk : Int32) : SA (X_order Z S ug uk).1 (X_order Z S ug uk).2.1 (M_order M ug uk).1 (M_order M ug uk).2 (cdL EIOB EIAE) (RXA Z (X_order Z S ug uk).2.2 (M_order M ug uk).2 (t + 1)) (RXA Z S (M_order M ug uk).2 (t + 1)) := by
  unfold X_order M_order
  rcases gN_iff (Z := Z) (S := S) (M := M) (x := ug) with ⟨c1, c2, q, hq, rfl⟩ | ⟨c1, c2⟩
  · rw [if_pos c1, if_pos c2]
    rcases nR_iff (Z := Z) (S := S) (M := M) (x := uk) (a := 1) (b := 1000000) with ⟨d1, d2⟩ | ⟨d1, d2⟩
    · rw [if_pos d1, if_pos d2]
      have h1 := RXA_29 (j := 0) (v := 0) h
      have hcq : (nI q).toNatClampNeg = q := nI_clamp (by omega)
      have e := h.1.g hq
      dsimp only
      rw [hcq, e.2.2.1]
      by_cases s : M.1 28 q + uk ≤ 10000000
      · rw [if_pos s, if_pos s, mset_k (show (28 : Nat) ≠ 29 by decide)]
        have r := rg_of d2
        rw [show (1 : Int32).toInt = 1 by decide, show (1000000 : Int32).toInt = 1000000 by decide] at r
        have f := e.2.2.2.2.2
        have ha : (M.1 28 q + uk).toInt = (M.1 28 q).toInt + uk.toInt := i32_addr (by have := r.1; have := f.1; omega) (by have := r.2; have := f.2; omega)
        refine Or.inl ⟨rfl, ?_, ?_, RXA_t ⟨RXN_28 h1.1 ⟨by rw [ha]; have := r.1; have := f.1; omega, ?_⟩, MI_any h1.2.1 (fun k _ _ _ _ _ _ _ => mset_k (by omega)), BI_set h1.2.2 (by decide) (by decide)⟩ ht⟩
        · rw [mset_k (by decide), mset_s]
        · rw [xset_s, mset_s]
        · rw [Int32.le_iff_toInt_le] at s
          exact s
      · rw [if_neg s, if_neg s]
        exact SA_bad h ht rfl (cdL_3 (by decide) (by decide))
    · rw [if_neg (nn_none d1), if_neg d2]
      exact SA_bad h ht d1 (cdL_2 (by decide))
  · rw [if_neg (nn_none c1), if_neg c2]
    exact SA_bad h ht c1 cdL_1
theorem MI_vv {M M' : MS} {np nv t j : Nat} (h : MI M np nv t) (hk : ∀ k, k < 20 → M'.1 k = M.1 k) (hj : ∀ k j', 20 ≤ k → k ≤ 25 → k ≠ 23 → j' ≠ j → M'.1 k j' = M.1 k j') (hv : j < nv → VIv M' np j) (hg : ¬ M'.1 24 j ≤ 0 → vp_in (M'.1 25 j) 3) : MI M' np nv t := by
  obtain ⟨h1, h2, h3, h4, h5, h6, h7, h8⟩ := h
  refine ⟨?_, fun i hi => ?_, fun i hi => ?_, fun i hi => ?_, fun i hi => ?_, ?_, h7, h8⟩
  · unfold MNn at h1 ⊢
    rw [hk 3 (by decide), hk 16 (by decide)]
    exact h1
  · by_cases c : i = j
    · subst c; exact hg hi
    · rw [hj 24 i (by decide) (by decide) (by decide) c] at hi
      rw [hj 25 i (by decide) (by decide) (by decide) c]
      exact h2 i hi
  · by_cases c : i = j
    · subst c; exact hv hi
    · have := h3 i hi
      unfold VIv at this ⊢
      rw [hj 22 i (by decide) (by decide) (by decide) c, hk 17 (by decide), hk 18 (by decide), hk 19 (by decide), hj 24 i (by decide) (by decide) (by decide) c, hj 21 i (by decide) (by decide) (by decide) c, hj 20 i (by decide) (by decide) (by decide) c]
      exact this
  · have := h4 i hi
    unfold PCv at this ⊢
    rw [hk 13 (by decide), hk 6 (by decide), hk 5 (by decide)]
    exact this
  · have := h5 i hi
    unfold FZp at this ⊢
    rw [hk 7 (by decide), hk 8 (by decide), hk 9 (by decide), hk 10 (by decide)]
    exact this
  · rw [hk 1 (by decide)]
    exact h6
theorem go_ok {Z : XZ} {S : XS} {M : MS} {t j : Nat} (h : RXA Z S M t) (hj : j < Z.N 1) (hw : M.1 20 j = 0 ∨ M.1 20 j = 3) : RXA Z (xset (xset S 2 j 5 (bI (M.1 20 j = 0))) 2 j 3 2) (mset (mset M 22 j (bI (M.1 20 j = 0))) 20 j 2) t := by
  obtain ⟨h, hI, hB⟩ := h
  have n1 : ¬ M.1 20 j = 1 := by rcases hw with e | e <;> rw [e] <;> decide
  have h1 := RXN_v (f := 5) (v := bI (M.1 20 j = 0)) h hj (by omega) (by omega) n1 (fun z => absurd z (by decide))
  refine ⟨RXN_v (f := 3) (v := 2) h1 hj (by omega) (by omega) (by rw [mset_k (by decide)]; exact n1) (fun _ => by decide), MI_vv (j := j) hI (fun k hk => by rw [mset_k (by omega), mset_k (by omega)]) (fun k i _ _ _ hi => by rw [mset_j hi, mset_j hi]) (fun _ => ?_) ?_, BI_set (BI_set hB (by decide) (by decide)) (by decide) (by decide)⟩
  · obtain ⟨b1, b2, b3, b4, b5, a, b6, b7, b8, b9, -, -⟩ := hI.2.2.1 j hj
    have hnp := hI.2.2.2.2.2.2.2 (by omega)
    unfold VIv
    rw [mset_k (show (22 : Nat) ≠ 20 by decide), mset_s, mset_s, mset_k (show (17 : Nat) ≠ 20 by decide), mset_k (show (17 : Nat) ≠ 22 by decide), mset_k (show (18 : Nat) ≠ 20 by decide), mset_k (show (18 : Nat) ≠ 22 by decide), mset_k (show (19 : Nat) ≠ 20 by decide), mset_k (show (19 : Nat) ≠ 22 by decide), mset_k (show (24 : Nat) ≠ 20 by decide), mset_k (show (24 : Nat) ≠ 22 by decide), mset_k (show (21 : Nat) ≠ 20 by decide), mset_k (show (21 : Nat) ≠ 22 by decide)]
    refine ⟨?_, b2, b3, b4, b5, a, b6, b7, fun z => absurd z (by decide), fun z => absurd z (by decide), fun z => absurd z (by decide), fun _ => ?_⟩
    · unfold bI
      split
      · exact Or.inr rfl
      · exact Or.inl rfl
    · rcases hw with e | e
      · rw [bI_t e]
        exact ⟨fun z => absurd z (by decide), fun _ => by rw [b8 e]; exact hnp⟩
      · rw [bI_f (by rw [e]; decide)]
        exact ⟨fun _ => by rw [b9 e]; exact hnp, fun z => absurd rfl z⟩
  · rw [mset_k (by decide), mset_k (by decide), mset_k (by decide), mset_k (by decide)]
    exact hI.2.1 j
theorem st_go {Z : XZ} {S : XS} {M : MS} {t : Nat} (h : RXA Z S M t) (ht : t < 512) (uv : Int32) : SA (X_go Z S uv).1 (X_go Z S uv).2.1 (M_go M uv).1 (M_go M uv).2 (cdL EIOB EISE) (RXA Z (X_go Z S uv).2.2 (M_go M uv).2 (t + 1)) (RXA Z S (M_go M uv).2 (t + 1)) := by
  unfold X_go M_go
  rcases vN_iff (Z := Z) (S := S) (M := M) (x := uv) h.2.1.1 with ⟨c1, c2, q, hq, rfl⟩ | ⟨c1, c2⟩
  · rw [if_pos c1, if_pos c2]
    have h1 := RXA_29 (j := 0) (v := 0) h
    have hcq : (nI q).toNatClampNeg = q := nI_clamp (by have := h.1.nv; omega)
    have e3 : S.1 2 q 3 = M.1 20 q := (h.1.v hq).2.2.2.1
    have e20 : (mset M 29 0 0).1 20 q = M.1 20 q := by rw [mset_k (by decide)]
    dsimp only
    rw [hcq, e3, e20]
    have ok : (M.1 20 q = 0 ∨ M.1 20 q = 3) → SA (none : Option String) ((xset (xset S 2 q 5 (bI (M.1 20 q = 0))) 2 q 3 2).1 2 q 5) (mset (mset (mset M 29 0 0) 22 q (bI (M.1 20 q = 0))) 20 q 2 |>.1 22 q) (mset (mset (mset M 29 0 0) 22 q (bI (M.1 20 q = 0))) 20 q 2) (cdL EIOB EISE) (RXA Z (xset (xset S 2 q 5 (bI (M.1 20 q = 0))) 2 q 3 2) (mset (mset (mset M 29 0 0) 22 q (bI (M.1 20 q = 0))) 20 q 2) (t + 1)) (RXA Z S (mset (mset (mset M 29 0 0) 22 q (bI (M.1 20 q = 0))) 20 q 2) (t + 1)) := fun z => by
      have g := go_ok h1 hq (by rw [e20]; exact z)
      rw [e20] at g
      refine Or.inl ⟨rfl, ?_, ?_, RXA_t g ht⟩
      · rw [mset_k (by decide), mset_k (by decide), mset_s]
      · rw [xset_f (by decide), xset_s, mset_k (by decide), mset_s]
    by_cases w : M.1 20 q = 0
    · rw [if_pos w, if_pos ⟨c2, Or.inl w⟩]
      exact ok (Or.inl w)
    · rw [if_neg w]
      by_cases w3 : M.1 20 q = 3
      · rw [if_pos w3, if_pos ⟨c2, Or.inr w3⟩]
        exact ok (Or.inr w3)
      · rw [if_neg w3, if_neg (fun z => z.2.elim w w3)]
        exact SA_bad h ht rfl (cdL_2 (by decide))
  · rw [if_neg (nn_none c1), if_neg c2]
    exact SA_bad h ht c1 cdL_1
