theorem MI_ends_s2 {S : MS} {np nv t n : Nat} (h : MI S np nv t) (hn : n < np) : MI (M_ends_s S n) np nv t := by
  have hcold : (if 0 ≤ S.1 1 0 then S else M_thaws S (nI n)) = (if 0 ≤ S.1 1 0 then S else M_thaws S (nI n)) → MI (if 0 ≤ S.1 1 0 then S else M_thaws S (nI n)) np nv t := fun _ => by
    by_cases c : 0 ≤ S.1 1 0
    · rw [if_pos c]; exact h
    · rw [if_neg c]; exact MI_thaws2 h hn (i32_nle c)
  unfold M_ends_s
  dsimp only
  by_cases c1 : S.1 1 0 ≤ 0
  · rw [if_pos c1]
    exact hcold rfl
  · rw [if_neg c1]
    by_cases c2 : M_isWater S (nI n)
    · rw [if_pos c2]
      exact MI_freezes2 h hn (i32_nle c1)
    · rw [if_neg c2]
      exact hcold rfl
theorem MI_passes_s2 {S : MS} {np nv t n : Nat} (h : MI S np nv t) (hn : n < nv) : MI (M_passes_s S n) np nv t := by
  unfold M_passes_s
  dsimp only
  have h1 : MI (if S.1 20 (nI n).toNatClampNeg = 1 then (if S.1 0 0 < S.1 23 (nI n).toNatClampNeg then S else M_leaves S (nI n)) else S) np nv t := by
    by_cases c1 : S.1 20 (nI n).toNatClampNeg = 1
    · rw [if_pos c1]
      by_cases c2 : S.1 0 0 < S.1 23 (nI n).toNatClampNeg
      · rw [if_pos c2]; exact h
      · rw [if_neg c2]; exact MI_leaves h hn c1
    · rw [if_neg c1]; exact h
  generalize (if S.1 20 (nI n).toNatClampNeg = 1 then (if S.1 0 0 < S.1 23 (nI n).toNatClampNeg then S else M_leaves S (nI n)) else S) = S1 at h1 ⊢
  by_cases c1 : S1.1 20 (nI n).toNatClampNeg = 2
  · rw [if_pos c1]
    by_cases c2 : M_against S1 (nI n) = 0
    · rw [if_pos c2]; exact MI_comes h1 hn c1
    · rw [if_neg c2]; exact h1
  · rw [if_neg c1]; exact h1
theorem MI_passes_f2 {S : MS} {np nv t n : Nat} (h : MI S np nv t) (hn : n ≤ nv) : MI (M_passes_f S n) np nv t := by
  induction n with
  | zero => exact h
  | succ n ih => exact MI_passes_s2 (ih (by omega)) (by omega)
theorem MI_passes2 {S : MS} {np nv t : Nat} (h : MI S np nv t) : MI (M_passes S) np nv t := by
  unfold M_passes
  dsimp only
  have h1 : MI (mset S 0 0 (S.1 0 0 + 1)) np nv t := MI_set h (by decide) rfl
  generalize mset S 0 0 (S.1 0 0 + 1) = S1 at h1 ⊢
  have h2 : MI (if S1.1 0 0 - S1.1 0 0 / 1440 * 1440 = 0 then M_ends S1 else S1) np nv t := ite_P (fun z => MI z np nv t) (MI_ends h1) h1
  generalize (if S1.1 0 0 - S1.1 0 0 / 1440 * 1440 = 0 then M_ends S1 else S1) = S2 at h2 ⊢
  have e : (S2.1 16 0).toNatClampNeg = nv := by rw [h2.1.2.2.1, nI_clamp (by have := h2.1.2.2.2; omega)]
  rw [e]
  exact MI_passes_f2 h2 (Nat.le_refl _)
