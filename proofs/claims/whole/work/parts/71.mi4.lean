theorem M_unloads_j {S : MS} {v b : Int32} {k j' : Nat} (h : j' ≠ v.toNatClampNeg) (h6 : k ≠ 26) (h7 : k ≠ 27) : (M_unloads S v b).1 k j' = S.1 k j' := by
  unfold M_unloads
  dsimp only
  rw [mset_j h, mset_j h]
  exact ite_MS rfl (by rw [mset_k h6, mset_k h7])
theorem M_unloads_24 {S : MS} {v b : Int32} : (M_unloads S v b).1 24 v.toNatClampNeg = 0 := by
  unfold M_unloads
  dsimp only
  rw [mset_k (by decide), mset_s]
theorem wear_nI {b m : Nat} (hb : b < 2 ^ 31) (hm : m < 2 ^ 31) : ∃ y, y ≤ b ∧ (if 0 ≤ nI b - nI m then nI b - nI m else 0) = nI y := by
  by_cases h : m ≤ b
  · rw [nI_sub' h, if_pos (nI_pos' (by omega))]
    exact ⟨b - m, by omega, rfl⟩
  · refine ⟨0, Nat.zero_le _, if_neg fun z => ?_⟩
    rw [Int32.le_iff_toInt_le, Int32.toInt_zero, Int32.toInt_sub, nI_toInt hb, nI_toInt hm, Int.bmod_eq_of_le (by omega) (by omega)] at z
    omega
theorem MI_lv {S S1 : MS} {np nv t j a : Nat} (h : MI S np nv t) (h1 : MI S1 np nv t) (hj : j < nv) (haq : a < np) (k21 : ∀ k, k ≠ 7 → S1.1 k = S.1 k) {a' : Nat} (ha' : a' ≤ np) : MI (if M_isThere (mset (mset S1 21 j (nI a')) 20 j 2) (nI j) then M_arrives (mset (mset S1 21 j (nI a')) 20 j 2) (nI j) else mset (mset S1 21 j (nI a')) 20 j 2) np nv t := by
  have hv := h.1.2.2.2
  have hp := h.1.2.1
  have hcj : (nI j).toNatClampNeg = j := nI_clamp (by omega)
  have hb1 := h1.2.2.1 j hj
  unfold VIv at hb1
  obtain ⟨c1, c2, c3, c4, c5, -⟩ := hb1
  have g7 : ∀ k, k ≠ 20 → k ≠ 21 → (mset (mset S1 21 j (nI a')) 20 j 2).1 k = S1.1 k := fun k q r => by rw [mset_k q, mset_k r]
  have np3 : S1.1 3 0 = nI np := h1.1.1
  by_cases hT : M_isThere (mset (mset S1 21 j (nI a')) 20 j 2) (nI j)
  · rw [if_pos hT]
    have hT2 : nI a' = if S.1 22 j = 0 then 0 else nI np := by
      have hT3 : (mset (mset S1 21 j (nI a')) 20 j 2).1 21 (nI j).toNatClampNeg = if (mset (mset S1 21 j (nI a')) 20 j 2).1 22 (nI j).toNatClampNeg = 0 then 0 else (mset (mset S1 21 j (nI a')) 20 j 2).1 3 0 := hT
      rw [hcj, g7 22 (by decide) (by decide), g7 3 (by decide) (by decide), mset_k (by decide), mset_s, k21 22 (by decide), np3] at hT3
      exact hT3
    have inj : ∀ {x y : Nat}, x ≤ 10 → y ≤ 10 → nI x = nI y → x = y := fun {x y} hx hy z => by
      have z2 := congrArg Int32.toNatClampNeg z
      rw [nI_clamp (by omega), nI_clamp (by omega)] at z2
      exact z2
    have kA : ∀ k, k ≠ 20 → k ≠ 21 → k ≠ 24 → k ≠ 25 → k ≠ 26 → k ≠ 27 → (M_arrives (mset (mset S1 21 j (nI a')) 20 j 2) (nI j)).1 k = S1.1 k := fun k q r u v w x => by rw [M_arrives_k _ _ q u v w x, g7 k q r]
    have kU : ∀ k, k ≠ 24 → k ≠ 25 → k ≠ 26 → k ≠ 27 → (M_arrives (mset (mset S1 21 j (nI a')) 20 j 2) (nI j)).1 k = (mset (mset (mset S1 21 j (nI a')) 20 j 2) 20 j (if S.1 22 j = 0 then 0 else 3)).1 k := fun k u v w x => by
      unfold M_arrives
      dsimp only
      rw [M_unloads_k _ _ _ u v w x, hcj, g7 22 (by decide) (by decide), k21 22 (by decide)]
    refine MI_v (j := j) h1 (fun k hk => kA k (by omega) (by omega) (by omega) (by omega) (by omega) (by omega)) (fun k j' hk hj' => ?_) (fun _ => ?_) (fun hg => ?_)
    · unfold M_arrives
      dsimp only
      rw [M_unloads_j (by rw [hcj]; exact hj') (by omega) (by omega), hcj, mset_j hj', mset_j hj', mset_j hj']
    · unfold VIv
      have e24 : (M_arrives (mset (mset S1 21 j (nI a')) 20 j 2) (nI j)).1 24 j = 0 := by
        have z := M_unloads_24 (S := mset (mset (mset S1 21 j (nI a')) 20 j 2) 20 (nI j).toNatClampNeg (if (mset (mset S1 21 j (nI a')) 20 j 2).1 22 (nI j).toNatClampNeg = 0 then 0 else 3)) (v := nI j) (b := (mset (mset (mset S1 21 j (nI a')) 20 j 2) 20 (nI j).toNatClampNeg (if (mset (mset S1 21 j (nI a')) 20 j 2).1 22 (nI j).toNatClampNeg = 0 then 0 else 3)).1 22 (nI j).toNatClampNeg)
        rw [hcj] at z
        unfold M_arrives
        dsimp only
        rw [hcj]
        exact z
      rw [e24, kA 22 (by decide) (by decide) (by decide) (by decide) (by decide) (by decide), kA 17 (by decide) (by decide) (by decide) (by decide) (by decide) (by decide), kA 18 (by decide) (by decide) (by decide) (by decide) (by decide) (by decide), kA 19 (by decide) (by decide) (by decide) (by decide) (by decide) (by decide), kU 21 (by decide) (by decide) (by decide) (by decide), kU 20 (by decide) (by decide) (by decide) (by decide), k21 22 (by decide)]
      rw [k21 22 (by decide)] at c1
      refine ⟨c1, c2, c3, c4, ⟨by decide, by decide⟩, a', by rw [mset_k (by decide), mset_k (by decide), mset_s], ha', ?_⟩
      rw [mset_s]
      by_cases c : S.1 22 j = 0
      · rw [if_pos c] at hT2 ⊢
        have h0 : a' = 0 := inj (by omega) (by omega) hT2
        exact ⟨fun _ => h0, fun z => absurd z (by decide), fun z => absurd z (by decide), fun z => absurd z (by decide)⟩
      · rw [if_neg c] at hT2 ⊢
        have h0 : a' = np := inj (by omega) (by omega) hT2
        exact ⟨fun z => absurd z (by decide), fun _ => h0, fun z => absurd z (by decide), fun z => absurd z (by decide)⟩
    · exact absurd (by
        have z := M_unloads_24 (S := mset (mset (mset S1 21 j (nI a')) 20 j 2) 20 (nI j).toNatClampNeg (if (mset (mset S1 21 j (nI a')) 20 j 2).1 22 (nI j).toNatClampNeg = 0 then 0 else 3)) (v := nI j) (b := (mset (mset (mset S1 21 j (nI a')) 20 j 2) 20 (nI j).toNatClampNeg (if (mset (mset S1 21 j (nI a')) 20 j 2).1 22 (nI j).toNatClampNeg = 0 then 0 else 3)).1 22 (nI j).toNatClampNeg)
        rw [hcj] at z
        unfold M_arrives
        dsimp only
        rw [hcj]
        rw [z]
        decide) hg
  · rw [if_neg hT]
    have hT2 : ¬ nI a' = if S.1 22 j = 0 then 0 else nI np := fun z => hT (by
      show (mset (mset S1 21 j (nI a')) 20 j 2).1 21 (nI j).toNatClampNeg = if (mset (mset S1 21 j (nI a')) 20 j 2).1 22 (nI j).toNatClampNeg = 0 then 0 else (mset (mset S1 21 j (nI a')) 20 j 2).1 3 0
      rw [hcj, g7 22 (by decide) (by decide), g7 3 (by decide) (by decide), mset_k (by decide), mset_s, k21 22 (by decide), np3]
      exact z)
    refine MI_v (j := j) h1 (fun k hk => g7 k (by omega) (by omega)) (fun k j' _ hj' => by rw [mset_j hj', mset_j hj']) (fun _ => ?_) (fun hg => ?_)
    · unfold VIv
      rw [g7 22 (by decide) (by decide), g7 17 (by decide) (by decide), g7 18 (by decide) (by decide), g7 19 (by decide) (by decide), g7 24 (by decide) (by decide)]
      refine ⟨c1, c2, c3, c4, c5, a', by rw [mset_k (by decide), mset_s], ha', ?_⟩
      rw [mset_s, k21 22 (by decide)]
      refine ⟨fun z => absurd z (by decide), fun z => absurd z (by decide), fun z => absurd z (by decide), fun _ => ⟨fun c => ?_, fun c => ?_⟩⟩
      · rw [if_pos c] at hT2
        rcases Nat.eq_zero_or_pos a' with z | z
        · exact absurd (by rw [z]; rfl) hT2
        · exact z
      · rw [if_neg c] at hT2
        rcases Nat.lt_or_ge a' np with z | z
        · exact z
        · exact absurd (by rw [show a' = np by omega]) hT2
    · rw [g7 24 (by decide) (by decide)] at hg
      rw [g7 25 (by decide) (by decide)]
      exact h1.2.1 j hg
theorem MI_leaves2 {S : MS} {np nv t j : Nat} (h : MI S np nv t) (hj : j < nv) (hw : S.1 20 (nI j).toNatClampNeg = 1) : MI (M_leaves S (nI j)) np nv t := by
  have hv := h.1.2.2.2
  have hp := h.1.2.1
  have hcj : (nI j).toNatClampNeg = j := nI_clamp (by omega)
  rw [hcj] at hw
  obtain ⟨b1, b2, b3, b4, b5, a, ha, -, -, -, ha1, -⟩ := h.2.2.1 j hj
  have haq := ha1 hw
  have hca : (nI a).toNatClampNeg = a := nI_clamp (by omega)
  obtain ⟨b, wh, wa, sn, e1, e2, e3, e4, g1, g2, g3, g4⟩ := fz_data h haq
  obtain ⟨em, e5, -, g5⟩ := rng_nI (x := S.1 17 j) (a := 500) (b := 40000) b2
  obtain ⟨lo, e6, -, g6⟩ := rng_nI (x := S.1 24 j) (a := 0) (b := 60000) b5
  have hwt : M_weight S (nI j) = nI (em + lo) := by
    unfold M_weight
    rw [hcj, e5, e6, nI_add]
  obtain ⟨y, hy, ey⟩ := wear_nI (b := b) (m := (em + lo) / 20000) (by omega) (by omega)
  have h1 : MI (if M_isWater S (nI a) then mset S 7 a (nI y) else S) np nv t := by
    refine ite_P (fun z => MI z np nv t) ?_ h
    refine MI_fz (i := a) h (fun k k7 _ _ _ _ => mset_k k7) (fun k j' _ hj' => mset_j hj') (fun _ => ?_)
    exact FZ_nI g4 mset_s ((congrFun (mset_k (by decide)) a).trans e2) ((congrFun (mset_k (by decide)) a).trans e3) ((congrFun (mset_k (by decide)) a).trans e4) (by omega) g2 g3
  have k21 : ∀ k, k ≠ 7 → (if M_isWater S (nI a) then mset S 7 a (nI y) else S).1 k = S.1 k := fun k hk => by
    by_cases c : M_isWater S (nI a)
    · rw [if_pos c, mset_k hk]
    · rw [if_neg c]
  have hdiv : nI (em + lo) / 20000 = nI ((em + lo) / 20000) := nI_div (b := 20000) (by omega) (by decide)
  obtain ⟨S1, hS1⟩ : ∃ z, z = (if M_isWater S (nI a) then mset S 7 a (nI y) else S) := ⟨_, rfl⟩
  rw [← hS1] at h1 k21
  obtain ⟨a', hx4, ha'⟩ : ∃ a' : Nat, (if S1.1 22 j = 0 then nI a else nI a + 1) = nI a' ∧ a' ≤ np := by
    by_cases c : S1.1 22 j = 0
    · rw [if_pos c]; exact ⟨a, rfl, by omega⟩
    · rw [if_neg c]; exact ⟨a + 1, nI_1 a, by omega⟩
  have key := MI_lv h h1 hj haq k21 ha'
  have e : M_leaves S (nI j) = (if M_isThere (mset (mset S1 21 j (nI a')) 20 j 2) (nI j) then M_arrives (mset (mset S1 21 j (nI a')) 20 j 2) (nI j) else mset (mset S1 21 j (nI a')) 20 j 2) := by
    unfold M_leaves
    simp only [hcj, ha, hca, hwt, e1, hdiv, ey, ← hS1, hx4]
  rw [e]
  exact key
