/-! ===== what holds of the reference's state throughout ===== -/
def VIv (S : MS) (np j : Nat) : Prop := (S.1 22 j = 0 ∨ S.1 22 j = 1) ∧ rng (S.1 17 j) 500 40000 ∧ rng (S.1 18 j) 0 60000 ∧ rng (S.1 19 j) 1 300 ∧ rng (S.1 24 j) 0 60000 ∧
  ∃ a : Nat, S.1 21 j = nI a ∧ a ≤ np ∧ (S.1 20 j = 0 → a = 0) ∧ (S.1 20 j = 3 → a = np) ∧ (S.1 20 j = 1 → a < np) ∧ (S.1 20 j = 2 → (S.1 22 j = 0 → 0 < a) ∧ (¬ S.1 22 j = 0 → a < np))
def PCv (S : MS) (i : Nat) : Prop := rng (S.1 13 i) 1 300 ∧ rng (S.1 6 i) 1 999 ∧ rng (S.1 5 i) 1 20000
def FZp (S : MS) (t i : Nat) : Prop := rng (S.1 7 i) 0 24480 ∧ (0 ≤ (S.1 8 i).toInt ∧ 0 ≤ (S.1 9 i).toInt ∧ (S.1 8 i).toInt + (S.1 9 i).toInt ≤ 100 * t) ∧ rng (S.1 10 i) 0 (500 * t)
def MI (S : MS) (np nv t : Nat) : Prop := MNn S np nv ∧ GI S ∧ (∀ j, j < nv → VIv S np j) ∧ (∀ i, i < np → PCv S i) ∧ (∀ i, i < np → FZp S t i) ∧ rng (S.1 1 0) (-20) 60 ∧ t ≤ 512 ∧ (0 < nv → 0 < np)
theorem MI.N {S : MS} {np nv t : Nat} (h : MI S np nv t) : MNn S np nv := h.1
theorem MI.G {S : MS} {np nv t : Nat} (h : MI S np nv t) : GI S := h.2.1
theorem MI_set {S S1 : MS} {np nv t k j : Nat} {v : Int32} (h : MI S np nv t) (hk : k = 0 ∨ k = 2 ∨ k = 11 ∨ k = 12 ∨ k = 15 ∨ k = 23 ∨ k = 29) (e : S1 = mset S k j v) : MI S1 np nv t := by
  subst e
  have n : ∀ k', k' = 1 ∨ k' = 3 ∨ k' = 5 ∨ k' = 6 ∨ k' = 7 ∨ k' = 8 ∨ k' = 9 ∨ k' = 10 ∨ k' = 13 ∨ k' = 16 ∨ k' = 17 ∨ k' = 18 ∨ k' = 19 ∨ k' = 20 ∨ k' = 21 ∨ k' = 22 ∨ k' = 24 ∨ k' = 25 → (mset S k j v).1 k' = S.1 k' := fun k' h' => mset_k (by omega)
  unfold MI MNn GI VIv PCv FZp at *
  simp only [n _ (show (1 : Nat) = 1 ∨ _ from Or.inl rfl), n 3 (by decide), n 5 (by decide), n 6 (by decide), n 7 (by decide), n 8 (by decide), n 9 (by decide), n 10 (by decide), n 13 (by decide), n 16 (by decide), n 17 (by decide), n 18 (by decide), n 19 (by decide), n 20 (by decide), n 21 (by decide), n 22 (by decide), n 24 (by decide), n 25 (by decide)]
  exact h
/-- a vehicle at a ramp has a piece ahead -/
theorem MI_next {S : MS} {np nv t j : Nat} (h : MI S np nv t) (hj : j < nv) (hw : S.1 20 (nI j).toNatClampNeg = 2) : ∃ q : Nat, q < np ∧ M_nextPiece S (nI j) = nI q := by
  have hv := h.1.2.2.2
  obtain ⟨h22, -, -, -, -, a, ha, hle, -, -, -, h2⟩ := h.2.2.1 j hj
  rw [nI_clamp (by omega)] at hw
  obtain ⟨h3, h4⟩ := h2 hw
  simp only [M_nextPiece, nI_clamp (show j < 2 ^ 31 by omega)]
  split
  · rename_i c
    have h5 := h3 c
    exact ⟨a - 1, by omega, by rw [ha, show a = (a - 1) + 1 by omega, nI_pred]; congr 1⟩
  · rename_i c
    exact ⟨a, h4 c, ha⟩
theorem MI_q {S : MS} {np nv t j : Nat} (h : MI S np nv t) (hj : j < nv) (hw : S.1 20 (nI j).toNatClampNeg = 2) : vp_in (M_nextPiece S (nI j)) 10 := by
  obtain ⟨q, hq, e⟩ := MI_next h hj hw
  rw [e]
  exact vp_in_nI (Nat.lt_of_lt_of_le hq h.1.2.1) (by decide)
theorem MI_spd' {S : MS} {np nv t j q : Nat} (h : MI S np nv t) (hj : j < nv) (hq : q < np) : SPD S (nI j) (nI q) := by
  have h1 := h.1.2.1
  have h2 := h.1.2.2.2
  unfold SPD
  rw [nI_clamp (by omega), nI_clamp (by omega)]
  exact ⟨(h.2.2.1 j hj).2.2.2.1, (h.2.2.2.1 q hq).1, (h.2.2.2.1 q hq).2.1⟩
theorem MI_spd {S : MS} {np nv t j : Nat} (h : MI S np nv t) (hj : j < nv) (hw : S.1 20 (nI j).toNatClampNeg = 2) : SPD S (nI j) (M_nextPiece S (nI j)) := by
  obtain ⟨q, hq, e⟩ := MI_next h hj hw
  rw [e]
  exact MI_spd' h hj hq
theorem MI_pl {S : MS} {np nv t j : Nat} (h : MI S np nv t) (hj : j < nv) (hw : S.1 20 (nI j).toNatClampNeg = 1) : vp_in (S.1 21 (nI j).toNatClampNeg) 10 := by
  have hv := h.1.2.2.2
  have hp := h.1.2.1
  obtain ⟨-, -, -, -, -, a, ha, hle, -, -, h1, -⟩ := h.2.2.1 j hj
  rw [nI_clamp (by omega)] at hw ⊢
  rw [ha]
  exact vp_in_nI (Nat.lt_of_lt_of_le (h1 hw) hp) (by decide)
/-- the number of a vehicle that there is -/
theorem isV_nI {S : MS} {np nv : Nat} {v : Int32} (h : MNn S np nv) (hv : M_isVehicle S v) : ∃ j : Nat, j < nv ∧ v = nI j := by
  have h1 : vp_in v nv := cnt_in (Nat.le_refl _) (by have := h.2.2.2; omega) (by rw [← h.2.2.1]; exact hv)
  exact vp_in_of h1 (by have := h.2.2.2; omega)
theorem isP_nI {S : MS} {np nv : Nat} {v : Int32} (h : MNn S np nv) (hv : M_isPiece S v) : ∃ j : Nat, j < np ∧ v = nI j := by
  have h1 : vp_in v np := cnt_in (Nat.le_refl _) (by have := h.2.1; omega) (by rw [← h.1]; exact hv)
  exact vp_in_of h1 (by have := h.2.1; omega)
theorem MI_qv {S S0 : MS} {np nv t : Nat} {v : Int32} (h : MI S np nv t) (h0 : MNn S0 np nv) (hv : M_isVehicle S0 v) (hw : S.1 20 v.toNatClampNeg = 2) : vp_in (M_nextPiece S v) 10 := by
  obtain ⟨j, hj, rfl⟩ := isV_nI h0 hv
  exact MI_q h hj hw
theorem MI_spv {S S0 : MS} {np nv t : Nat} {v p : Int32} (h : MI S np nv t) (h0 : MNn S0 np nv) (hv : M_isVehicle S0 v) (hp : M_isPiece S0 p) : SPD S v p := by
  obtain ⟨j, hj, rfl⟩ := isV_nI h0 hv
  obtain ⟨q, hq, rfl⟩ := isP_nI h0 hp
  exact MI_spd' h hj hq
theorem MI_den {S : MS} {np nv t i : Nat} (h : MI S np nv t) (hi : i < np) (hc : 0 < S.1 1 0) : ¬ (((S.1 7 (nI i).toNatClampNeg + (S.1 8 (nI i).toNatClampNeg + (if S.1 9 (nI i).toNatClampNeg ≤ 2 * S.1 1 0 then S.1 9 (nI i).toNatClampNeg else 2 * S.1 1 0))) + 4 * S.1 10 (nI i).toNatClampNeg) + 50 = 0) := by
  sorry
theorem MI_leaves {S : MS} {np nv t j : Nat} (h : MI S np nv t) (hj : j < nv) (hw : S.1 20 (nI j).toNatClampNeg = 1) : MI (M_leaves S (nI j)) np nv t := by
  sorry
theorem MI_comes {S : MS} {np nv t j : Nat} (h : MI S np nv t) (hj : j < nv) (hw : S.1 20 (nI j).toNatClampNeg = 2) : MI (M_comes S (nI j)) np nv t := by
  sorry
theorem MI_freezes {S : MS} {np nv t i : Nat} (h : MI S np nv t) (hi : i < np) (hc : 0 < S.1 1 0) : MI (M_freezes S (nI i)) np nv t := by
  sorry
theorem MI_thaws {S : MS} {np nv t i : Nat} (h : MI S np nv t) (hi : i < np) (hc : S.1 1 0 < 0) : MI (M_thaws S (nI i)) np nv t := by
  sorry
