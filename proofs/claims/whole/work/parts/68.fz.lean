theorem ite_P {α : Type} {c : Prop} [Decidable c] {A B : α} (P : α → Prop) (hA : P A) (hB : P B) : P (if c then A else B) := by
  split
  · exact hA
  · exact hB
theorem nI_div {a b : Nat} (ha : a < 2 ^ 31) (hb : b < 2 ^ 31) : nI a / nI b = nI (a / b) := by
  have hd : a / b ≤ a := Nat.div_le_self a b
  rw [← Int32.toInt_inj, Int32.toInt_div, nI_toInt ha, nI_toInt hb, nI_toInt (by omega), ← Int.ofNat_tdiv]
  generalize a / b = q at hd ⊢
  exact Int.bmod_eq_of_le (by omega) (by omega)
theorem fz_add {g : Nat} {K : Prop} [Decidable K] (hg : g < 2 ^ 31) : ∃ y, y ≤ g ∧ (if 0 ≤ nI g - (if K then 2 else 0) then nI g - (if K then 2 else 0) else 0) = nI y := by
  by_cases hK : K
  · rw [if_pos hK]
    by_cases h2 : 2 ≤ g
    · have e : nI g - 2 = nI (g - 2) := nI_sub' h2
      rw [e, if_pos (nI_pos' (by omega))]
      exact ⟨g - 2, by omega, rfl⟩
    · refine ⟨0, by omega, ?_⟩
      have hh : g = 0 ∨ g = 1 := by omega
      rcases hh with rfl | rfl <;> decide
  · rw [if_neg hK]
    have e : nI g - 0 = nI g := nI_sub' (b := 0) (Nat.zero_le g)
    rw [e, if_pos (nI_pos' hg)]
    exact ⟨g, Nat.le_refl _, rfl⟩
theorem M_freezes_v {S : MS} {p : Int32} {x1 : Int32} (e1 : x1 = if S.1 9 p.toNatClampNeg ≤ 2 * S.1 1 0 then S.1 9 p.toNatClampNeg else 2 * S.1 1 0) : (M_freezes S p).1 9 p.toNatClampNeg = S.1 9 p.toNatClampNeg - x1 ∧ (M_freezes S p).1 8 p.toNatClampNeg = S.1 8 p.toNatClampNeg + x1 ∧ ((M_freezes S p).1 7 p.toNatClampNeg = S.1 7 p.toNatClampNeg ∨ (M_freezes S p).1 7 p.toNatClampNeg = S.1 7 p.toNatClampNeg + (if 0 ≤ (400 * S.1 1 0) / (((S.1 7 p.toNatClampNeg + (S.1 8 p.toNatClampNeg + x1)) + 4 * S.1 10 p.toNatClampNeg) + 50) - (if S.1 4 p.toNatClampNeg = 1 then 2 else 0) then (400 * S.1 1 0) / (((S.1 7 p.toNatClampNeg + (S.1 8 p.toNatClampNeg + x1)) + 4 * S.1 10 p.toNatClampNeg) + 50) - (if S.1 4 p.toNatClampNeg = 1 then 2 else 0) else 0)) := by
  subst e1
  unfold M_freezes
  dsimp only
  refine ⟨?_, ?_, ?_⟩
  · have h5 : ∀ (c : Prop) [Decidable c] (S3 : MS) (v : Int32) (u : Int32), S3.1 9 p.toNatClampNeg = u → (if c then mset S3 7 p.toNatClampNeg v else S3).1 9 p.toNatClampNeg = u := fun c _ S3 v u h => ite_MS (by rw [mset_k (by decide)]; exact h) h
    refine ite_MS (ite_MS (h5 _ _ _ _ ?_) ?_) ?_
    · rw [mset_k (by decide), mset_s]
    · rw [mset_k (by decide)]
      exact h5 _ _ _ _ (by rw [mset_k (by decide), mset_s])
    · rw [mset_k (by decide)]
      exact h5 _ _ _ _ (by rw [mset_k (by decide), mset_s])
  · have h5 : ∀ (c : Prop) [Decidable c] (S3 : MS) (v : Int32) (u : Int32), S3.1 8 p.toNatClampNeg = u → (if c then mset S3 7 p.toNatClampNeg v else S3).1 8 p.toNatClampNeg = u := fun c _ S3 v u h => ite_MS (by rw [mset_k (by decide)]; exact h) h
    refine ite_MS (ite_MS (h5 _ _ _ _ ?_) ?_) ?_
    · rw [mset_s, mset_k (by decide)]
    · rw [mset_k (by decide)]
      exact h5 _ _ _ _ (by rw [mset_s, mset_k (by decide)])
    · rw [mset_k (by decide)]
      exact h5 _ _ _ _ (by rw [mset_s, mset_k (by decide)])
  · have h5 : ∀ (c : Prop) [Decidable c] (S3 : MS) (v a b : Int32), S3.1 7 p.toNatClampNeg = a → v = b → ((if c then mset S3 7 p.toNatClampNeg v else S3).1 7 p.toNatClampNeg = a ∨ (if c then mset S3 7 p.toNatClampNeg v else S3).1 7 p.toNatClampNeg = b) := fun c _ S3 v a b h hv => ite_P (fun z : MS => z.1 7 p.toNatClampNeg = a ∨ z.1 7 p.toNatClampNeg = b) (Or.inr (by rw [mset_s]; exact hv)) (Or.inl h)
    have hb : ∀ x1 : Int32, ∀ (a : Int32), a = S.1 7 p.toNatClampNeg → (mset (mset S 9 p.toNatClampNeg (S.1 9 p.toNatClampNeg - x1)) 8 p.toNatClampNeg ((mset S 9 p.toNatClampNeg (S.1 9 p.toNatClampNeg - x1)).1 8 p.toNatClampNeg + x1)).1 7 p.toNatClampNeg = a := fun x1 a h => by
      rw [mset_k (by decide), mset_k (by decide)]
      exact h.symm
    refine ite_P (fun z : MS => z.1 7 p.toNatClampNeg = _ ∨ z.1 7 p.toNatClampNeg = _) (ite_P (fun z : MS => z.1 7 p.toNatClampNeg = _ ∨ z.1 7 p.toNatClampNeg = _) ?_ ?_) ?_
    · exact h5 _ _ _ _ _ (hb _ _ rfl) (by simp only [mset_s, mset_k (k := 8) (k' := 7) (by decide), mset_k (k := 9) (k' := 7) (by decide), mset_k (k := 8) (k' := 1) (by decide), mset_k (k := 9) (k' := 1) (by decide), mset_k (k := 8) (k' := 10) (by decide), mset_k (k := 9) (k' := 10) (by decide), mset_k (k := 8) (k' := 4) (by decide), mset_k (k := 9) (k' := 4) (by decide), mset_k (k := 9) (k' := 8) (by decide)])
    · show (mset _ 11 _ _).1 7 _ = _ ∨ (mset _ 11 _ _).1 7 _ = _
      rw [mset_k (k := 11) (k' := 7) (by decide)]
      exact h5 _ _ _ _ _ (hb _ _ rfl) (by simp only [mset_s, mset_k (k := 8) (k' := 7) (by decide), mset_k (k := 9) (k' := 7) (by decide), mset_k (k := 8) (k' := 1) (by decide), mset_k (k := 9) (k' := 1) (by decide), mset_k (k := 8) (k' := 10) (by decide), mset_k (k := 9) (k' := 10) (by decide), mset_k (k := 8) (k' := 4) (by decide), mset_k (k := 9) (k' := 4) (by decide), mset_k (k := 9) (k' := 8) (by decide)])
    · show (mset _ 11 _ _).1 7 _ = _ ∨ (mset _ 11 _ _).1 7 _ = _
      rw [mset_k (k := 11) (k' := 7) (by decide)]
      exact h5 _ _ _ _ _ (hb _ _ rfl) (by simp only [mset_s, mset_k (k := 8) (k' := 7) (by decide), mset_k (k := 9) (k' := 7) (by decide), mset_k (k := 8) (k' := 1) (by decide), mset_k (k := 9) (k' := 1) (by decide), mset_k (k := 8) (k' := 10) (by decide), mset_k (k := 9) (k' := 10) (by decide), mset_k (k := 8) (k' := 4) (by decide), mset_k (k := 9) (k' := 4) (by decide), mset_k (k := 9) (k' := 8) (by decide)])
theorem MI_freezes2 {S : MS} {np nv t i : Nat} (h : MI S np nv t) (hi : i < np) (hc : 0 < S.1 1 0) : MI (M_freezes S (nI i)) np nv t := by
  have hnp := h.1.2.1
  have hci : (nI i).toNatClampNeg = i := nI_clamp (by omega)
  refine MI_fz (i := i) h (fun k a b c d e => M_freezes_k a b c e) (fun k j _ hj => M_freezes_j (by rw [hci]; exact hj)) (fun _ => ?_)
  obtain ⟨b, wh, wa, sn, e1, e2, e3, e4, g1, g2, g3, g4⟩ := fz_data h hi
  obtain ⟨c, e5, -, g5⟩ := rng_nI (x := S.1 1 0) (a := 0) (b := 60) ⟨by rw [Int32.lt_iff_toInt_lt, Int32.toInt_zero] at hc; omega, h.2.2.2.2.2.1.2⟩
  obtain ⟨v9, v8, v7⟩ := M_freezes_v (S := S) (p := nI i) rfl
  rw [hci] at v9 v8 v7
  have hx : (if S.1 9 i ≤ 2 * S.1 1 0 then S.1 9 i else 2 * S.1 1 0) = nI (min wa (2 * c)) := by
    rw [e3, e5, show (2 : Int32) = nI 2 from rfl, nI_mul, min_nI (by omega) (by omega)]
  rw [hx] at v9 v8 v7
  have m1 : min wa (2 * c) ≤ wa := Nat.min_le_left _ _
  rw [e3, nI_sub' m1] at v9
  rw [e2, nI_add] at v8
  have v10 : (M_freezes S (nI i)).1 10 i = nI sn := by rw [M_freezes_k (by decide) (by decide) (by decide) (by decide)]; exact e4
  have hden : ((S.1 7 i + (S.1 8 i + nI (min wa (2 * c)))) + 4 * S.1 10 i) + 50 = nI (b + (wh + min wa (2 * c) + 4 * sn) + 50) := by
    rw [e1, e2, e4, show (4 : Int32) = nI 4 from rfl, nI_mul, nI_add, nI_add, nI_add, show (50 : Int32) = nI 50 from rfl, nI_add]
    congr 1
    omega
  have hnum : 400 * S.1 1 0 = nI (400 * c) := by rw [e5, show (400 : Int32) = nI 400 from rfl, nI_mul]
  rw [hden, hnum, nI_div (by omega) (by omega)] at v7
  have hgr := fz_grow (b := b) (c := c) (k := wh + min wa (2 * c) + 4 * sn) g1 g5
  obtain ⟨y, hy, ey⟩ := fz_add (g := 400 * c / (b + (wh + min wa (2 * c) + 4 * sn) + 50)) (K := S.1 4 i = 1) (by have : 400 * c / (b + (wh + min wa (2 * c) + 4 * sn) + 50) ≤ 400 * c := Nat.div_le_self _ _; omega)
  rw [ey, e1, nI_add] at v7
  rcases v7 with v7 | v7
  · exact FZ_nI g4 v7 v8 v9 v10 g1 (by omega) g3
  · exact FZ_nI g4 v7 v8 v9 v10 (by omega) (by omega) g3
