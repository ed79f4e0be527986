/-! ===== calls that set something ===== -/
theorem nI_m1 : ∀ n : Nat, n ≤ 16 → (nI n - 1).toInt = (n : Int) - 1 := by decide +kernel
theorem cnt_iff {n : Nat} {x : Int32} (hn : n ≤ 16) : (x < nI n ↔ x ≤ nI n - 1) := by
  rw [Int32.lt_iff_toInt_lt, Int32.le_iff_toInt_le, nI_m1 n hn, nI_toInt (by omega)]
  omega
theorem pN_iff {Z : XZ} {S : XS} {M : MS} {nv : Nat} {x : Int32} (h : MNn M (Z.N 0) nv) : (X_pieceNumbered Z S x = none ∧ M_isPiece M x ∧ ∃ q, q < Z.N 0 ∧ x = nI q) ∨ (X_pieceNumbered Z S x = some EIOB ∧ ¬ M_isPiece M x) := by
  unfold X_pieceNumbered M_isPiece M_isIn
  rw [h.1]
  by_cases c : x < 0
  · rw [if_pos c]
    exact Or.inr ⟨rfl, fun z => z.1 c⟩
  · rw [if_neg c]
    by_cases d : x < nI (Z.N 0)
    · rw [if_pos d]
      have e := (cnt_iff (by have := h.2.1; omega)).mp d
      obtain ⟨j, hj, rfl⟩ := nI_of c
      exact Or.inl ⟨rfl, ⟨c, fun z => i32_lt_le z e⟩, j, (nI_ltI hj (by have := h.2.1; omega)).mp d, rfl⟩
    · rw [if_neg d]
      refine Or.inr ⟨rfl, fun z => d ((cnt_iff (by have := h.2.1; omega)).mpr (i32_nlt_le z.2))⟩
theorem vN_iff {Z : XZ} {S : XS} {M : MS} {np : Nat} {x : Int32} (h : MNn M np (Z.N 1)) : (X_vehicleNumbered Z S x = none ∧ M_isVehicle M x ∧ ∃ q, q < Z.N 1 ∧ x = nI q) ∨ (X_vehicleNumbered Z S x = some EIOB ∧ ¬ M_isVehicle M x) := by
  unfold X_vehicleNumbered M_isVehicle M_isIn
  rw [h.2.2.1]
  by_cases c : x < 0
  · rw [if_pos c]
    exact Or.inr ⟨rfl, fun z => z.1 c⟩
  · rw [if_neg c]
    by_cases d : x < nI (Z.N 1)
    · rw [if_pos d]
      have e := (cnt_iff h.2.2.2).mp d
      obtain ⟨j, hj, rfl⟩ := nI_of c
      exact Or.inl ⟨rfl, ⟨c, fun z => i32_lt_le z e⟩, j, (nI_ltI hj (by have := h.2.2.2; omega)).mp d, rfl⟩
    · rw [if_neg d]
      refine Or.inr ⟨rfl, fun z => d ((cnt_iff h.2.2.2).mpr (i32_nlt_le z.2))⟩
theorem gN_iff {Z : XZ} {S : XS} {M : MS} {x : Int32} : (X_needGoods Z S x = none ∧ M_isGoods M x ∧ ∃ q, q < 3 ∧ x = nI q) ∨ (X_needGoods Z S x = some EIOB ∧ ¬ M_isGoods M x) := by
  unfold X_needGoods M_isGoods M_isIn
  by_cases c : x < 0
  · rw [if_pos c]
    exact Or.inr ⟨rfl, fun z => z.1 c⟩
  · rw [if_neg c]
    by_cases d : x < 3
    · rw [if_pos d]
      have e : x ≤ 2 := (cnt_iff (n := 3) (by decide)).mp d
      obtain ⟨j, hj, rfl⟩ := nI_of c
      exact Or.inl ⟨rfl, ⟨c, fun z => i32_lt_le z e⟩, j, (nI_ltI (b := 3) hj (by decide)).mp d, rfl⟩
    · rw [if_neg d]
      refine Or.inr ⟨rfl, fun z => d ((cnt_iff (n := 3) (by decide)).mpr (i32_nlt_le z.2))⟩
theorem rg_of {M : MS} {x a b : Int32} (h : M_isIn M x a b) : rng x a.toInt b.toInt := by
  obtain ⟨c, d⟩ := h
  rw [Int32.lt_iff_toInt_lt] at c d
  exact ⟨by omega, by omega⟩
theorem SA_bad {α : Type} {T : Option String} {x y : α} {Z : XZ} {S : XS} {M : MS} {t : Nat} {n : Int32} {E : String} {cd : String → Int32} {ok : Prop} (h : RXA Z S M t) (ht : t < 512) (hT : T = some E) (hc : cd E = n) : SA T x y (mset M 29 0 n) cd ok (RXA Z S (mset M 29 0 n) (t + 1)) := Or.inr ⟨E, hT, by rw [mset_s]; exact hc.symm, RXA_t (RXA_29 h) ht⟩
theorem nn_none {T : Option String} {E : String} (h : T = some E) : ¬ T = none := fun z => by rw [h] at z; cases z
theorem MI_sn {M : MS} {np nv t i : Nat} {v : Int32} (h : MI M np nv t) (hv : rng v 0 (500 * t)) : MI (mset M 10 i v) np nv t := by
  refine MI_fz (i := i) h (fun k _ _ _ k10 _ => mset_k k10) (fun k j _ hj => mset_j hj) (fun hi => ?_)
  have f := h.2.2.2.2.1 i hi
  unfold FZp at f ⊢
  rw [mset_k (show (7 : Nat) ≠ 10 by decide), mset_k (show (8 : Nat) ≠ 10 by decide), mset_k (show (9 : Nat) ≠ 10 by decide), mset_s]
  exact ⟨f.1, f.2.1, hv⟩
theorem MI_wa {M : MS} {np nv t i : Nat} {v : Int32} (h : MI M np nv t) (h0 : 0 ≤ v.toInt) (hv : (M.1 8 i).toInt + v.toInt ≤ 100 * t) : MI (mset M 9 i v) np nv t := by
  refine MI_fz (i := i) h (fun k _ _ k9 _ _ => mset_k k9) (fun k j _ hj => mset_j hj) (fun hi => ?_)
  have f := h.2.2.2.2.1 i hi
  unfold FZp at f ⊢
  rw [mset_k (show (7 : Nat) ≠ 9 by decide), mset_k (show (8 : Nat) ≠ 9 by decide), mset_k (show (10 : Nat) ≠ 9 by decide), mset_s]
  exact ⟨f.1, ⟨f.2.1.1, h0, hv⟩, f.2.2⟩
theorem MI_any {S S1 : MS} {np nv t : Nat} (h : MI S np nv t) (n : ∀ k, (1 ≤ k ∧ k ≤ 25) → k ≠ 2 → k ≠ 4 → k ≠ 11 → k ≠ 12 → k ≠ 15 → k ≠ 23 → S1.1 k = S.1 k) : MI S1 np nv t := by
  unfold MI MNn GI VIv PCv FZp at *
  simp only [n 1 (by decide) (by decide) (by decide) (by decide) (by decide) (by decide) (by decide), n 3 (by decide) (by decide) (by decide) (by decide) (by decide) (by decide) (by decide), n 5 (by decide) (by decide) (by decide) (by decide) (by decide) (by decide) (by decide), n 6 (by decide) (by decide) (by decide) (by decide) (by decide) (by decide) (by decide), n 7 (by decide) (by decide) (by decide) (by decide) (by decide) (by decide) (by decide), n 8 (by decide) (by decide) (by decide) (by decide) (by decide) (by decide) (by decide), n 9 (by decide) (by decide) (by decide) (by decide) (by decide) (by decide) (by decide), n 10 (by decide) (by decide) (by decide) (by decide) (by decide) (by decide) (by decide), n 13 (by decide) (by decide) (by decide) (by decide) (by decide) (by decide) (by decide), n 16 (by decide) (by decide) (by decide) (by decide) (by decide) (by decide) (by decide), n 17 (by decide) (by decide) (by decide) (by decide) (by decide) (by decide) (by decide), n 18 (by decide) (by decide) (by decide) (by decide) (by decide) (by decide) (by decide), n 19 (by decide) (by decide) (by decide) (by decide) (by decide) (by decide) (by decide), n 20 (by decide) (by decide) (by decide) (by decide) (by decide) (by decide) (by decide), n 21 (by decide) (by decide) (by decide) (by decide) (by decide) (by decide) (by decide), n 22 (by decide) (by decide) (by decide) (by decide) (by decide) (by decide) (by decide), n 24 (by decide) (by decide) (by decide) (by decide) (by decide) (by decide) (by decide), n 25 (by decide) (by decide) (by decide) (by decide) (by decide) (by decide) (by decide)]
  exact h
theorem MI_lim {M : MS} {np nv t i : Nat} {v : Int32} (h : MI M np nv t) (hv : rng v 1 300) : MI (mset M 13 i v) np nv t := by
  have n : ∀ k, k ≠ 13 → (mset M 13 i v).1 k = M.1 k := fun k hk => mset_k hk
  obtain ⟨h1, h2, h3, h4, h5, h6, h7, h8⟩ := h
  unfold MI MNn GI VIv PCv FZp at *
  simp only [n 1 (by decide), n 3 (by decide), n 5 (by decide), n 6 (by decide), n 7 (by decide), n 8 (by decide), n 9 (by decide), n 10 (by decide), n 16 (by decide), n 17 (by decide), n 18 (by decide), n 19 (by decide), n 20 (by decide), n 21 (by decide), n 22 (by decide), n 24 (by decide), n 25 (by decide)]
  refine ⟨h1, h2, h3, fun q hq => ?_, h5, h6, h7, h8⟩
  have := h4 q hq
  by_cases c : q = i
  · subst c
    rw [mset_s]
    exact ⟨hv, this.2⟩
  · rw [mset_j c]
    exact this
theorem st_gapA {Z : XZ} {S : XS} {M : MS} {t : Nat} (h : RXA Z S M t) (ht : t < 512) (uk : Int32) : SA (X_gap Z S uk).1 (X_gap Z S uk).2.1 (M_gap M uk).1 (M_gap M uk).2 (cdL EIAE "") (RXA Z (X_gap Z S uk).2.2 (M_gap M uk).2 (t + 1)) (RXA Z S (M_gap M uk).2 (t + 1)) := by
  have hg : S.1 0 0 8 = M.1 2 0 := h.1.2.2.2.2.2.1
  unfold X_gap M_gap
  rcases nR_iff (Z := Z) (S := S) (M := M) (x := uk) (a := 0) (b := 120) with ⟨c1, c2⟩ | ⟨c1, c2⟩
  · rw [if_pos c1, if_pos c2]
    have h1 := RXA_29 (j := 0) (v := 0) h
    refine Or.inl ⟨rfl, ?_, ?_, RXA_t ⟨RXN_s (k := 2) h1.1 (by omega) (fun z => absurd z (by decide)) (fun _ => rg_of c2), MI_set h1.2.1 (by decide) rfl, BI_set h1.2.2 (by decide) (by decide)⟩ ht⟩
    · show (mset (mset M 29 0 0) 2 0 uk).1 29 0 = 0
      rw [mset_k (by decide), mset_s]
    · show S.1 0 0 8 = (mset M 29 0 0).1 2 0
      rw [mset_k (by decide)]
      exact hg
  · rw [if_neg (nn_none c1), if_neg c2]
    exact SA_bad h ht c1 cdL_1
theorem st_weatherA {Z : XZ} {S : XS} {M : MS} {t : Nat} (h : RXA Z S M t) (ht : t < 512) (uk : Int32) : SA (X_weather Z S uk).1 (X_weather Z S uk).2.1 (M_weather M uk).1 (M_weather M uk).2 (cdL EIAE "") (RXA Z (X_weather Z S uk).2.2 (M_weather M uk).2 (t + 1)) (RXA Z S (M_weather M uk).2 (t + 1)) := by
  have hg : S.1 0 0 7 = M.1 1 0 := h.1.2.2.2.2.1
  unfold X_weather M_weather
  rcases nR_iff (Z := Z) (S := S) (M := M) (x := uk) (a := -20) (b := 60) with ⟨c1, c2⟩ | ⟨c1, c2⟩
  · rw [if_pos c1, if_pos c2]
    have h1 := RXA_29 (j := 0) (v := 0) h
    refine Or.inl ⟨rfl, ?_, ?_, RXA_t ⟨RXN_s (k := 1) h1.1 (by omega) (fun z => absurd z (by decide)) (fun z => absurd z (by decide)), MI_cold h1.2.1 (rg_of c2), BI_set h1.2.2 (by decide) (by decide)⟩ ht⟩
    · show (mset (mset M 29 0 0) 1 0 uk).1 29 0 = 0
      rw [mset_k (by decide), mset_s]
    · show S.1 0 0 7 = (mset M 29 0 0).1 1 0
      rw [mset_k (by decide)]
      exact hg
  · rw [if_neg (nn_none c1), if_neg c2]
    exact SA_bad h ht c1 cdL_1
theorem st_plough {Z : XZ} {S : XS} {M : MS} {t : Nat} (h : RXA Z S M t) (ht : t < 512) (up : Int32) : SA (X_plough Z S up).1 (X_plough Z S up).2.1 (M_plough M up).1 (M_plough M up).2 (cdL EIOB "") (RXA Z (X_plough Z S up).2.2 (M_plough M up).2 (t + 1)) (RXA Z S (M_plough M up).2 (t + 1)) := by
  unfold X_plough M_plough
  rcases pN_iff (Z := Z) (S := S) (M := M) (x := up) h.2.1.1 with ⟨c1, c2, q, hq, rfl⟩ | ⟨c1, c2⟩
  · rw [if_pos c1, if_pos c2]
    have h1 := RXA_29 (j := 0) (v := 0) h
    have hcq : (nI q).toNatClampNeg = q := nI_clamp (by have := h.1.np; omega)
    dsimp only
    rw [hcq]
    refine Or.inl ⟨rfl, ?_, ?_, RXA_t ⟨RXN_f (f := 6) h1.1 hq (by omega) (by omega), MI_sn h1.2.1 ⟨by decide, by rw [Int32.toInt_zero]; omega⟩, BI_set h1.2.2 (by decide) (by decide)⟩ ht⟩
    · rw [mset_k (by decide), mset_s]
    · exact (h1.1.p hq).f 6 (by omega) (by omega)
  · rw [if_neg (nn_none c1), if_neg c2]
    exact SA_bad h ht c1 cdL_1
theorem st_drill {Z : XZ} {S : XS} {M : MS} {t : Nat} (h : RXA Z S M t) (ht : t < 512) (up : Int32) : SA (X_drill Z S up).1 (X_drill Z S up).2.1 (M_drill M up).1 (M_drill M up).2 (cdL EIOB "") (RXA Z (X_drill Z S up).2.2 (M_drill M up).2 (t + 1)) (RXA Z S (M_drill M up).2 (t + 1)) := by
  unfold X_drill M_drill
  rcases pN_iff (Z := Z) (S := S) (M := M) (x := up) h.2.1.1 with ⟨c1, c2, q, hq, rfl⟩ | ⟨c1, c2⟩
  · rw [if_pos c1, if_pos c2]
    have h1 := RXA_29 (j := 0) (v := 0) h
    have hcq : (nI q).toNatClampNeg = q := nI_clamp (by have := h.1.np; omega)
    dsimp only
    obtain ⟨kv, hkv⟩ : ∃ kv : NN, kv = ⟨M_thick (mset M 29 0 0) (nI q), nn_thick _ _⟩ := ⟨_, rfl⟩
    have ev : (⟨X_realThickness Z S (nI q).toNatClampNeg, nn_thickX _ _ _⟩ : NN) = kv := by
      rw [hkv]
      exact Subtype.ext ((congrArg (X_realThickness Z S) hcq).trans (thick_eq (h1.1.p hq) (by have := h.1.np; omega)))
    rw [ev, ← hkv, hcq]
    have h2 := RXN_k (v := kv) h1.1 hq
    refine Or.inl ⟨rfl, ?_, ?_, RXA_t ⟨h2, h1.2.1, BI_eq h1.2.2 rfl rfl⟩ ht⟩
    · show (mset M 29 0 0).1 29 0 = 0
      exact mset_s
    · exact congrArg Subtype.val (h2.p hq).k
  · rw [if_neg (nn_none c1), if_neg c2]
    exact SA_bad h ht c1 cdL_1
theorem st_open {Z : XZ} {S : XS} {M : MS} {t : Nat} (h : RXA Z S M t) (ht : t < 512) (up uk : Int32) : SA (X_open Z S up uk).1 (X_open Z S up uk).2.1 (M_open M up uk).1 (M_open M up uk).2 (cdL EIOB EIAE) (RXA Z (X_open Z S up uk).2.2 (M_open M up uk).2 (t + 1)) (RXA Z S (M_open M up uk).2 (t + 1)) := by
  unfold X_open M_open
  rcases pN_iff (Z := Z) (S := S) (M := M) (x := up) h.2.1.1 with ⟨c1, c2, q, hq, rfl⟩ | ⟨c1, c2⟩
  · rw [if_pos c1, if_pos c2]
    rcases nR_iff (Z := Z) (S := S) (M := M) (x := uk) (a := 0) (b := 2) with ⟨d1, d2⟩ | ⟨d1, d2⟩
    · rw [if_pos d1, if_pos d2]
      have h1 := RXA_29 (j := 0) (v := 0) h
      have hcq : (nI q).toNatClampNeg = q := nI_clamp (by have := h.1.np; omega)
      dsimp only
      rw [hcq]
      refine Or.inl ⟨rfl, ?_, ?_, RXA_t ⟨RXN_f (f := 8) h1.1 hq (by omega) (by omega), MI_set h1.2.1 (by decide) rfl, BI_set h1.2.2 (by decide) (by decide)⟩ ht⟩
      · rw [mset_k (by decide), mset_s]
      · exact (h1.1.p hq).f 8 (by omega) (by omega)
    · rw [if_neg (nn_none d1), if_neg d2]
      exact SA_bad h ht d1 (cdL_2 (by decide))
  · rw [if_neg (nn_none c1), if_neg c2]
    exact SA_bad h ht c1 cdL_1
theorem st_limit {Z : XZ} {S : XS} {M : MS} {t : Nat} (h : RXA Z S M t) (ht : t < 512) (up uk : Int32) : SA (X_limit Z S up uk).1 (X_limit Z S up uk).2.1 (M_limit M up uk).1 (M_limit M up uk).2 (cdL EIOB EIAE) (RXA Z (X_limit Z S up uk).2.2 (M_limit M up uk).2 (t + 1)) (RXA Z S (M_limit M up uk).2 (t + 1)) := by
  unfold X_limit M_limit
  rcases pN_iff (Z := Z) (S := S) (M := M) (x := up) h.2.1.1 with ⟨c1, c2, q, hq, rfl⟩ | ⟨c1, c2⟩
  · rw [if_pos c1, if_pos c2]
    rcases nR_iff (Z := Z) (S := S) (M := M) (x := uk) (a := 1) (b := 300) with ⟨d1, d2⟩ | ⟨d1, d2⟩
    · rw [if_pos d1, if_pos d2]
      have h1 := RXA_29 (j := 0) (v := 0) h
      have hcq : (nI q).toNatClampNeg = q := nI_clamp (by have := h.1.np; omega)
      dsimp only
      rw [hcq]
      refine Or.inl ⟨rfl, ?_, ?_, RXA_t ⟨RXN_f (f := 9) h1.1 hq (by omega) (by omega), MI_lim h1.2.1 (rg_of d2), BI_set h1.2.2 (by decide) (by decide)⟩ ht⟩
      · rw [mset_k (by decide), mset_s]
      · exact (h1.1.p hq).f 9 (by omega) (by omega)
    · rw [if_neg (nn_none d1), if_neg d2]
      exact SA_bad h ht d1 (cdL_2 (by decide))
  · rw [if_neg (nn_none c1), if_neg c2]
    exact SA_bad h ht c1 cdL_1
