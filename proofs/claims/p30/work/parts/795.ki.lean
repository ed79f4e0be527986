/-! ===== goods taken are goods brought and goods still on a vehicle ===== -/
def cr (M : MS) (g j : Nat) : Int32 := if M.1 25 j = nI g then M.1 24 j else 0
def sC (M : MS) (g : Nat) : Nat → Int32
  | 0 => 0
  | n + 1 => sC M g n + cr M g n
def KI (M : MS) : Prop := ∀ g, g < 3 → M.1 26 g = M.1 27 g + sC M g 16
theorem sC_eq {M M' : MS} {g : Nat} : ∀ n, (∀ i, i < n → cr M' g i = cr M g i) → sC M' g n = sC M g n
  | 0, _ => rfl
  | n + 1, h => by
    show sC M' g n + cr M' g n = sC M g n + cr M g n
    rw [sC_eq n (fun i hi => h i (by omega)), h n (by omega)]
theorem sC_one {M M' : MS} {g j : Nat} : ∀ n, j < n → (∀ i, i < n → i ≠ j → cr M' g i = cr M g i) → sC M' g n + cr M g j = sC M g n + cr M' g j
  | 0, h, _ => absurd h (by omega)
  | n + 1, hj, h => by
    show (sC M' g n + cr M' g n) + cr M g j = (sC M g n + cr M g n) + cr M' g j
    by_cases e : j = n
    · subst e
      rw [sC_eq j (fun i hi => h i (by omega) (by omega))]
      grind
    · have ih := sC_one n (show j < n by omega) (fun i hi hne => h i (by omega) hne)
      rw [h n (by omega) (fun z => e z.symm)]
      grind
theorem KI_t {M M' : MS} (h : KI M) (hk : ∀ k, 24 ≤ k → k ≤ 27 → M'.1 k = M.1 k) : KI M' := by
  intro g hg
  rw [hk 26 (by decide) (by decide), hk 27 (by decide) (by decide), h g hg, sC_eq 16 (fun i _ => ?_)]
  unfold cr
  rw [hk 24 (by decide) (by decide), hk 25 (by decide) (by decide)]
theorem KI_g {M M' : MS} {j : Nat} (h : KI M) (hj : j < 16) (hn : ∀ i, i ≠ j → M'.1 24 i = M.1 24 i ∧ M'.1 25 i = M.1 25 i) (hg : ∀ g, g < 3 → M'.1 26 g + M.1 27 g + cr M g j = M.1 26 g + M'.1 27 g + cr M' g j) : KI M' := by
  intro g hgg
  have h1 := h g hgg
  have h2 := hg g hgg
  have h3 := sC_one (M := M) (M' := M') (g := g) 16 hj (fun i _ hne => by unfold cr; rw [(hn i hne).1, (hn i hne).2])
  grind
theorem KI_vehicle {M M' : MS} {j : Nat} (h : KI M) (hj : j < 16) (h0 : M.1 24 j = 0) (h24 : M'.1 24 = M.1 24) (h26 : M'.1 26 = M.1 26) (h27 : M'.1 27 = M.1 27) (h25 : ∀ i, i ≠ j → M'.1 25 i = M.1 25 i) : KI M' := by
  refine KI_g h hj (fun i hi => ⟨by rw [h24], h25 i hi⟩) (fun g hg => ?_)
  have c : ∀ N : MS, N.1 24 j = 0 → cr N g j = 0 := fun N hN => by unfold cr; rw [hN]; split <;> rfl
  rw [c M h0, c M' (by rw [h24]; exact h0), h26, h27]
theorem KI_load {M M' : MS} {j g : Nat} {x : Int32} (h : KI M) (hj : j < 16) (h0 : M.1 24 j = 0) (h24 : M'.1 24 j = x) (h25 : M'.1 25 j = nI g) (hn : ∀ i, i ≠ j → M'.1 24 i = M.1 24 i ∧ M'.1 25 i = M.1 25 i) (hg : g < 3) (h26 : M'.1 26 g = M.1 26 g + x) (h26' : ∀ i, i ≠ g → M'.1 26 i = M.1 26 i) (h27 : M'.1 27 = M.1 27) : KI M' := by
  refine KI_g h hj hn (fun i hi => ?_)
  have c : cr M i j = 0 := by unfold cr; rw [h0]; split <;> rfl
  rw [c, h27]
  unfold cr
  rw [h24, h25]
  by_cases e : g = i
  · subst e
    rw [if_pos rfl, h26]
    grind
  · rw [if_neg (fun z => e ((nI_eq (by omega) (by omega)).mp z)), h26' i (fun z => e z.symm)]
theorem KI_unl {M : MS} {j : Nat} {b : Int32} (h : KI M) (hj : j < 16) (h0 : M.1 24 j ≤ 0 → M.1 24 j = 0) (hG : ¬ M.1 24 j ≤ 0 → vp_in (M.1 25 j) 3) : KI (M_unloads M (nI j) b) := by
  have ej : (nI j).toNatClampNeg = j := nI_clamp (by omega)
  unfold M_unloads
  dsimp only
  rw [ej]
  have c : ∀ (N : MS) i, N.1 24 j = 0 → cr N i j = 0 := fun N i hN => by unfold cr; rw [hN]; split <;> rfl
  by_cases hc : M.1 24 j ≤ 0
  · rw [if_pos hc]
    refine KI_g h hj (fun i hi => ⟨by rw [mset_k (by decide), mset_j hi], by rw [mset_j hi, mset_k (by decide)]⟩) (fun i hi => ?_)
    rw [c M i (h0 hc), c _ i (by rw [mset_k (by decide), mset_s]), mset_k (by decide), mset_k (by decide), mset_k (by decide), mset_k (by decide)]
  · rw [if_neg hc]
    obtain ⟨g, hg, eg⟩ := vp_in_of (hG hc) (by decide)
    rw [eg, nI_clamp (by omega)]
    have e25 : ∀ v, (mset M 27 g v).1 25 j = nI g := fun v => by rw [mset_k (by decide), eg]
    simp only [e25, nI_clamp (show g < 2 ^ 31 by omega)]
    refine KI_g h hj (fun i hi => ⟨by rw [mset_k (by decide), mset_j hi, mset_k (by decide), mset_k (by decide)], by rw [mset_j hi, mset_k (by decide), mset_k (by decide), mset_k (by decide)]⟩) (fun i hi => ?_)
    rw [show ∀ N : MS, cr (mset (mset N 24 j 0) 25 j (-1)) i j = 0 from fun N => c _ i (by rw [mset_k (by decide), mset_s]), mset_k (show (26 : Nat) ≠ 25 by decide), mset_k (show (26 : Nat) ≠ 24 by decide), mset_k (show (27 : Nat) ≠ 25 by decide), mset_k (show (27 : Nat) ≠ 24 by decide), mset_k (show (27 : Nat) ≠ 26 by decide), mset_k (show (26 : Nat) ≠ 27 by decide), mset_k (show (24 : Nat) ≠ 27 by decide)]
    unfold cr
    rw [eg]
    by_cases e : g = i
    · subst e
      rw [if_pos rfl, mset_s, mset_s]
      by_cases b0 : b = 0
      · rw [if_pos b0, if_pos b0]
        grind
      · rw [if_neg b0, if_neg b0]
        grind
    · rw [if_neg (fun z => e ((nI_eq (by omega) (by omega)).mp z)), mset_j (fun z => e z.symm), mset_j (fun z => e z.symm), mset_j (fun z => e z.symm)]
theorem KI_arr {M : MS} {j : Nat} (h : KI M) (hj : j < 16) (h0 : M.1 24 j ≤ 0 → M.1 24 j = 0) (hG : ¬ M.1 24 j ≤ 0 → vp_in (M.1 25 j) 3) : KI (M_arrives M (nI j)) := by
  unfold M_arrives
  dsimp only
  refine KI_unl (KI_t h (fun k a b => mset_k (by omega))) hj (fun z => ?_) (fun z => ?_)
  · rw [mset_k (by decide)] at z ⊢
    exact h0 z
  · rw [mset_k (by decide)] at z ⊢
    exact hG z
theorem MI_ld0 {M : MS} {np nv t j : Nat} (hI : MI M np nv t) (hj : j < nv) : M.1 24 j ≤ 0 → M.1 24 j = 0 := fun z => by
  have := (hI.2.2.1 j hj).2.2.2.2.1
  rw [Int32.le_iff_toInt_le, Int32.toInt_zero] at z
  exact Int32.toInt_inj.mp (by rw [Int32.toInt_zero]; have := this.1; omega)
theorem ite_KI {c : Prop} [Decidable c] {A B : MS} (hA : KI A) (hB : KI B) : KI (if c then A else B) := by
  split
  · exact hA
  · exact hB
theorem KI_leaves {M : MS} {np nv t j : Nat} (h : KI M) (hI : MI M np nv t) (hj : j < nv) : KI (M_leaves M (nI j)) := by
  have hnv := hI.1.2.2.2
  unfold M_leaves
  dsimp only
  generalize eX : (if M_isWater M (M.1 21 (nI j).toNatClampNeg) then mset M 7 (M.1 21 (nI j).toNatClampNeg).toNatClampNeg (if 0 ≤ M.1 7 (M.1 21 (nI j).toNatClampNeg).toNatClampNeg - M_weight M (nI j) / 20000 then M.1 7 (M.1 21 (nI j).toNatClampNeg).toNatClampNeg - M_weight M (nI j) / 20000 else 0) else M) = M1
  have hk : ∀ k, 24 ≤ k → k ≤ 27 → M1.1 k = M.1 k := fun k a b => by
    rw [← eX]
    exact ite_k (mset_k (by omega)) rfl
  clear eX
  generalize (if M1.1 22 (nI j).toNatClampNeg = 0 then M.1 21 (nI j).toNatClampNeg else M.1 21 (nI j).toNatClampNeg + 1) = x
  have h7 : KI (mset (mset M1 21 (nI j).toNatClampNeg x) 20 (nI j).toNatClampNeg 2) := KI_t h (fun k a b => by rw [mset_k (by omega), mset_k (by omega), hk k a b])
  refine ite_KI (KI_arr h7 (by omega) (fun z => ?_) (fun z => ?_)) h7
  · rw [mset_k (by decide), mset_k (by decide), hk 24 (by decide) (by decide)] at z ⊢
    exact MI_ld0 hI hj z
  · rw [mset_k (by decide), mset_k (by decide), hk 24 (by decide) (by decide)] at z
    rw [mset_k (by decide), mset_k (by decide), hk 25 (by decide) (by decide)]
    exact hI.2.1 j z
theorem KI_comes {M : MS} {j : Int32} (h : KI M) : KI (M_comes M j) := by
  unfold M_comes
  dsimp only
  exact ite_KI (KI_t h (fun k a b => by rw [mset_k (by omega), mset_k (by omega), mset_k (by omega), mset_k (by omega), mset_k (by omega), mset_k (by omega)])) (KI_t h (fun k a b => by rw [mset_k (by omega), mset_k (by omega), mset_k (by omega), mset_k (by omega)]))
theorem KI_passes_s {M : MS} {np nv t n : Nat} (h : KI M) (hI : MI M np nv t) (hn : n < nv) : KI (M_passes_s M n) := by
  unfold M_passes_s
  dsimp only
  have h1 : KI (if M.1 20 (nI n).toNatClampNeg = 1 then (if M.1 0 0 < M.1 23 (nI n).toNatClampNeg then M else M_leaves M (nI n)) else M) := ite_KI (ite_KI h (KI_leaves h hI hn)) h
  generalize (if M.1 20 (nI n).toNatClampNeg = 1 then (if M.1 0 0 < M.1 23 (nI n).toNatClampNeg then M else M_leaves M (nI n)) else M) = M1 at h1 ⊢
  exact ite_KI (ite_KI (KI_comes h1) h1) h1
theorem KI_passes_f {M : MS} {np nv t : Nat} (h : KI M) (hI : MI M np nv t) : ∀ n, n ≤ nv → KI (M_passes_f M n)
  | 0, _ => h
  | n + 1, hn => KI_passes_s (KI_passes_f h hI n (by omega)) (MI_passes_f hI (by omega)) (by omega)
theorem KI_passes {M : MS} {np nv t : Nat} (h : KI M) (hI : MI M np nv t) : KI (M_passes M) := by
  unfold M_passes
  dsimp only
  have h1 : MI (mset M 0 0 (M.1 0 0 + 1)) np nv t := MI_set hI (by decide) rfl
  have k1 : KI (mset M 0 0 (M.1 0 0 + 1)) := KI_t h (fun k a b => mset_k (by omega))
  generalize mset M 0 0 (M.1 0 0 + 1) = M1 at h1 k1 ⊢
  have h2 : MI (if M1.1 0 0 - M1.1 0 0 / 1440 * 1440 = 0 then M_ends M1 else M1) np nv t := ite_P (fun z => MI z np nv t) (MI_ends h1) h1
  have k2 : KI (if M1.1 0 0 - M1.1 0 0 / 1440 * 1440 = 0 then M_ends M1 else M1) := ite_KI (KI_t k1 (fun k a b => M_e_k (by omega))) k1
  generalize (if M1.1 0 0 - M1.1 0 0 / 1440 * 1440 = 0 then M_ends M1 else M1) = M2 at h2 k2 ⊢
  have e : (M2.1 16 0).toNatClampNeg = nv := by rw [h2.1.2.2.1, nI_clamp (by have := h2.1.2.2.2; omega)]
  rw [e]
  exact KI_passes_f k2 h2 nv (Nat.le_refl _)
theorem KI_pass {M : MS} {np nv t : Nat} (h : KI M) (hI : MI M np nv t) : ∀ n, KI (M_pass_f M n)
  | 0 => h
  | n + 1 => KI_passes (KI_pass h hI n) (MI_pass_f hI)
