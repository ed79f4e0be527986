theorem MI_v {S S1 : MS} {np nv t j : Nat} (h : MI S np nv t) (hk : ∀ k, (k = 1 ∨ k = 3 ∨ k = 5 ∨ k = 6 ∨ k = 7 ∨ k = 8 ∨ k = 9 ∨ k = 10 ∨ k = 13 ∨ k = 16 ∨ k = 17 ∨ k = 18 ∨ k = 19 ∨ k = 22) → S1.1 k = S.1 k) (hj : ∀ k j', (k = 20 ∨ k = 21 ∨ k = 24 ∨ k = 25) → j' ≠ j → S1.1 k j' = S.1 k j') (hv : j < nv → VIv S1 np j) (hg : ¬ S1.1 24 j ≤ 0 → vp_in (S1.1 25 j) 3) : MI S1 np nv t := by
  obtain ⟨h1, h2, h3, h4, h5, h6, h7, h8⟩ := h
  refine ⟨?_, ?_, ?_, ?_, ?_, ?_, h7, h8⟩
  · unfold MNn at h1 ⊢
    rw [hk 3 (by decide), hk 16 (by decide)]
    exact h1
  · intro i hi
    by_cases c : i = j
    · subst c
      exact hg hi
    · rw [hj 24 i (by decide) c] at hi
      rw [hj 25 i (by decide) c]
      exact h2 i hi
  · intro i hi
    by_cases c : i = j
    · subst c
      exact hv hi
    · have := h3 i hi
      unfold VIv at this ⊢
      rw [hk 22 (by decide), hk 17 (by decide), hk 18 (by decide), hk 19 (by decide), hj 24 i (by decide) c, hj 21 i (by decide) c, hj 20 i (by decide) c]
      exact this
  · intro i hi
    have := h4 i hi
    unfold PCv at this ⊢
    rw [hk 13 (by decide), hk 6 (by decide), hk 5 (by decide)]
    exact this
  · intro i hi
    have := h5 i hi
    unfold FZp at this ⊢
    rw [hk 7 (by decide), hk 8 (by decide), hk 9 (by decide), hk 10 (by decide)]
    exact this
  · rw [hk 1 (by decide)]
    exact h6
theorem MI_place {S : MS} {np nv t j q : Nat} (h : MI S np nv t) (hj : j < nv) (hq : q < np) {x : Int32} (hx : x = 4 ∨ x = 1) : MI (mset (mset S 21 j (nI q)) 20 j x) np nv t := by
  have hb := h.2.2.1 j hj
  refine MI_v (j := j) h (fun k hk => ?_) (fun k j' _ hj' => ?_) (fun _ => ?_) (fun hg => ?_)
  · rw [mset_k (by omega), mset_k (by omega)]
  · rw [mset_j hj', mset_j hj']
  · unfold VIv at hb ⊢
    obtain ⟨b1, b2, b3, b4, b5, -⟩ := hb
    have e : ∀ k, k ≠ 20 → k ≠ 21 → (mset (mset S 21 j (nI q)) 20 j x).1 k = S.1 k := fun k a b => by rw [mset_k a, mset_k b]
    rw [e 22 (by decide) (by decide), e 17 (by decide) (by decide), e 18 (by decide) (by decide), e 19 (by decide) (by decide), e 24 (by decide) (by decide)]
    refine ⟨b1, b2, b3, b4, b5, q, by rw [mset_k (by decide), mset_s], by omega, ?_, ?_, fun _ => hq, ?_⟩
    all_goals rw [mset_s]; intro z; rcases hx with rfl | rfl <;> exact absurd z (by decide)
  · rw [mset_k (by decide), mset_k (by decide)] at hg ⊢
    exact h.2.1 j hg
theorem MI_comes2 {S : MS} {np nv t j : Nat} (h : MI S np nv t) (hj : j < nv) (hw : S.1 20 (nI j).toNatClampNeg = 2) : MI (M_comes S (nI j)) np nv t := by
  obtain ⟨q, hq, e⟩ := MI_next h hj hw
  have hv := h.1.2.2.2
  have hcj : (nI j).toNatClampNeg = j := nI_clamp (by omega)
  unfold M_comes
  dsimp only
  rw [e, hcj]
  have a : ∀ (i8 : Nat) (v8 v9 : Int32) (c : Prop) [Decidable c], MI (mset (mset (mset (mset S 15 i8 v8) 21 j (nI q)) 20 j (if c then 4 else 1)) 23 j v9) np nv t := fun i8 v8 v9 c _ => MI_set (MI_place (MI_set h (by decide) rfl) hj hq (by split <;> simp)) (by decide) rfl
  exact ite_P (fun z => MI z np nv t) (MI_set (MI_set (a _ _ _ _) (by decide) rfl) (by decide) rfl) (a _ _ _ _)
