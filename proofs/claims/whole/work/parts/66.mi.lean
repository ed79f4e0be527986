/-! ===== the reference's invariant: freezing, thawing ===== -/
theorem min_nI {a b : Nat} (ha : a < 2 ^ 31) (hb : b < 2 ^ 31) : (if nI a ≤ nI b then nI a else nI b) = nI (min a b) := by
  by_cases h : a ≤ b
  · rw [if_pos (nI_le h hb), Nat.min_eq_left h]
  · rw [if_neg (fun z => h ((nI_leI ha hb).mp z)), Nat.min_eq_right (by omega)]
theorem nI_mul (a b : Nat) : nI a * nI b = nI (a * b) := (Int32.ofNat_mul a b).symm
theorem fz_data {S : MS} {np nv t i : Nat} (h : MI S np nv t) (hi : i < np) : ∃ b wh wa sn : Nat, S.1 7 i = nI b ∧ S.1 8 i = nI wh ∧ S.1 9 i = nI wa ∧ S.1 10 i = nI sn ∧ b ≤ 24480 ∧ wh + wa ≤ 100 * t ∧ sn ≤ 500 * t ∧ t ≤ 512 := by
  obtain ⟨f1, ⟨f2, f3, f4⟩, f5⟩ := h.2.2.2.2.1 i hi
  have ht := h.2.2.2.2.2.2.1
  obtain ⟨b, e1, -, g1⟩ := rng_nI (a := 0) (b := 24480) f1
  obtain ⟨wh, e2, -, k2⟩ := rng_nI (x := S.1 8 i) (a := 0) (b := 100 * t) ⟨f2, by omega⟩
  obtain ⟨wa, e3, -, k3⟩ := rng_nI (x := S.1 9 i) (a := 0) (b := 100 * t) ⟨f3, by omega⟩
  obtain ⟨sn, e4, -, g4⟩ := rng_nI (x := S.1 10 i) (a := 0) (b := 500 * t) ⟨f5.1, by have := f5.2; omega⟩
  refine ⟨b, wh, wa, sn, e1, e2, e3, e4, g1, ?_, g4, ht⟩
  rw [e2] at f2 f4
  rw [e3] at f3 f4
  rw [nI_toInt (by omega), nI_toInt (by omega)] at f4
  omega
theorem MI_den2 {S : MS} {np nv t i : Nat} (h : MI S np nv t) (hi : i < np) (hc : 0 < S.1 1 0) : ¬ (((S.1 7 (nI i).toNatClampNeg + (S.1 8 (nI i).toNatClampNeg + (if S.1 9 (nI i).toNatClampNeg ≤ 2 * S.1 1 0 then S.1 9 (nI i).toNatClampNeg else 2 * S.1 1 0))) + 4 * S.1 10 (nI i).toNatClampNeg) + 50 = 0) := by
  have hnp := h.1.2.1
  rw [nI_clamp (by omega)]
  obtain ⟨b, wh, wa, sn, e1, e2, e3, e4, g1, g2, g3, g4⟩ := fz_data h hi
  obtain ⟨c, e5, -, g5⟩ := rng_nI (x := S.1 1 0) (a := 0) (b := 60) ⟨by rw [Int32.lt_iff_toInt_lt, Int32.toInt_zero] at hc; omega, h.2.2.2.2.2.1.2⟩
  rw [e1, e2, e3, e4, e5, show (2 : Int32) = nI 2 from rfl, nI_mul, min_nI (by omega) (by omega), show (4 : Int32) = nI 4 from rfl, nI_mul, nI_add, nI_add, nI_add, show (50 : Int32) = nI 50 from rfl, nI_add]
  exact nI_ne0 (by omega) (by have : min wa (2 * c) ≤ 2 * c := Nat.min_le_right _ _; omega)
theorem MI_fz {S S1 : MS} {np nv t i : Nat} (h : MI S np nv t) (hk : ∀ k, k ≠ 7 → k ≠ 8 → k ≠ 9 → k ≠ 10 → k ≠ 11 → S1.1 k = S.1 k) (hj : ∀ k j, (k = 7 ∨ k = 8 ∨ k = 9 ∨ k = 10) → j ≠ i → S1.1 k j = S.1 k j) (hf : i < np → FZp S1 t i) : MI S1 np nv t := by
  obtain ⟨h1, h2, h3, h4, h5, h6, h7, h8⟩ := h
  have e : ∀ k, (k ≠ 7 ∧ k ≠ 8 ∧ k ≠ 9 ∧ k ≠ 10 ∧ k ≠ 11) → S1.1 k = S.1 k := fun k z => hk k z.1 z.2.1 z.2.2.1 z.2.2.2.1 z.2.2.2.2
  refine ⟨?_, ?_, ?_, ?_, fun j hjn => ?_, ?_, h7, h8⟩
  · unfold MNn at h1 ⊢
    rw [e 3 (by decide), e 16 (by decide)]
    exact h1
  · unfold GI at h2 ⊢
    rw [e 24 (by decide), e 25 (by decide)]
    exact h2
  · intro j hjn
    have := h3 j hjn
    unfold VIv at this ⊢
    rw [e 22 (by decide), e 17 (by decide), e 18 (by decide), e 19 (by decide), e 24 (by decide), e 21 (by decide), e 20 (by decide)]
    exact this
  · intro j hjn
    have := h4 j hjn
    unfold PCv at this ⊢
    rw [e 13 (by decide), e 6 (by decide), e 5 (by decide)]
    exact this
  · by_cases c : j = i
    · subst c
      exact hf hjn
    · have := h5 j hjn
      unfold FZp at this ⊢
      rw [hj 7 j (by omega) c, hj 8 j (by omega) c, hj 9 j (by omega) c, hj 10 j (by omega) c]
      exact this
  · rw [e 1 (by decide)]
    exact h6
theorem FZ_nI {S : MS} {t i b wh wa sn : Nat} (ht : t ≤ 512) (e1 : S.1 7 i = nI b) (e2 : S.1 8 i = nI wh) (e3 : S.1 9 i = nI wa) (e4 : S.1 10 i = nI sn) (g1 : b ≤ 24480) (g2 : wh + wa ≤ 100 * t) (g3 : sn ≤ 500 * t) : FZp S t i := by
  unfold FZp rng
  rw [e1, e2, e3, e4, nI_toInt (by omega), nI_toInt (by omega), nI_toInt (by omega), nI_toInt (by omega)]
  omega
theorem nI_sub' {a b : Nat} (h : b ≤ a) : nI a - nI b = nI (a - b) := by
  have e : nI a = nI (a - b) + nI b := by rw [nI_add, Nat.sub_add_cancel h]
  rw [e]
  exact Int32.add_sub_cancel _ _
theorem fz_grow {b c k : Nat} (hb : b ≤ 24480) (hc : c ≤ 60) : b + 400 * c / (b + k + 50) ≤ 24480 := by
  have h1 : 400 * c / (b + k + 50) ≤ 24000 / (b + 50) := Nat.le_trans (Nat.div_le_div_right (by omega)) (Nat.div_le_div_left (by omega) (by omega))
  have h2 : 24000 / (b + 50) ≤ 480 := Nat.le_trans (Nat.div_le_div_left (show 50 ≤ b + 50 by omega) (by omega)) (by omega)
  by_cases h : b ≤ 24000
  · omega
  · have h3 : 24000 / (b + 50) = 0 := Nat.div_eq_of_lt (by omega)
    omega
theorem M_freezes_k {S : MS} {p : Int32} {k : Nat} (h7 : k ≠ 7) (h8 : k ≠ 8) (h9 : k ≠ 9) (h11 : k ≠ 11) : (M_freezes S p).1 k = S.1 k := by
  unfold M_freezes
  dsimp only
  (repeat' split) <;> simp only [mset_k h7, mset_k h8, mset_k h9, mset_k h11]
theorem mset_j {S : MS} {k j k' j' : Nat} {v : Int32} (h : j' ≠ j) : (mset S k j v).1 k' j' = S.1 k' j' := if_neg fun z => h z.2
theorem M_freezes_j {S : MS} {p : Int32} {k j : Nat} (h : j ≠ p.toNatClampNeg) : (M_freezes S p).1 k j = S.1 k j := by
  unfold M_freezes
  dsimp only
  (repeat' split) <;> simp only [mset_j h]
theorem mkset_1 {S : MS} {j : Nat} {v : NN} : (mkset S j v).1 = S.1 := rfl
theorem ite_MS {c : Prop} [Decidable c] {A B : MS} {k j : Nat} {x : Int32} (hA : A.1 k j = x) (hB : B.1 k j = x) : (if c then A else B).1 k j = x := by
  split
  · exact hA
  · exact hB
theorem M_thaws_k {S : MS} {p : Int32} {k : Nat} (h7 : k ≠ 7) (h8 : k ≠ 8) (h10 : k ≠ 10) (h11 : k ≠ 11) : (M_thaws S p).1 k = S.1 k := by
  funext j
  unfold M_thaws
  dsimp only
  refine ite_MS ?_ ?_
  · rw [mset_k h11, mkset_1, mset_k h7, mset_k h8, mset_k h10]
  · rw [mset_k h11, mkset_1, mset_k h7, mset_k h8, mset_k h10]
theorem M_thaws_j {S : MS} {p : Int32} {k j : Nat} (h : j ≠ p.toNatClampNeg) : (M_thaws S p).1 k j = S.1 k j := by
  unfold M_thaws
  dsimp only
  refine ite_MS ?_ ?_
  · rw [mset_j h, mkset_1, mset_j h, mset_j h, mset_j h]
  · rw [mset_j h, mkset_1, mset_j h, mset_j h, mset_j h]
theorem M_thaws_v {S : MS} {p : Int32} {x1 x4 x7 : Int32} (e1 : x1 = if S.1 10 p.toNatClampNeg ≤ (-6) * S.1 1 0 then S.1 10 p.toNatClampNeg else (-6) * S.1 1 0) (e4 : x4 = if S.1 8 p.toNatClampNeg ≤ (-6) * S.1 1 0 - x1 then S.1 8 p.toNatClampNeg else (-6) * S.1 1 0 - x1) (e7 : x7 = if S.1 7 p.toNatClampNeg ≤ (-6) * S.1 1 0 - x1 - x4 then S.1 7 p.toNatClampNeg else (-6) * S.1 1 0 - x1 - x4) : (M_thaws S p).1 10 p.toNatClampNeg = S.1 10 p.toNatClampNeg - x1 ∧ (M_thaws S p).1 8 p.toNatClampNeg = S.1 8 p.toNatClampNeg - x4 ∧ (M_thaws S p).1 7 p.toNatClampNeg = S.1 7 p.toNatClampNeg - x7 := by
  subst e7
  subst e4
  subst e1
  unfold M_thaws
  dsimp only
  refine ⟨ite_MS ?_ ?_, ite_MS ?_ ?_, ite_MS ?_ ?_⟩
  · rw [mset_k (by decide), mkset_1, mset_k (by decide), mset_k (by decide), mset_s]
  · rw [mset_k (by decide), mkset_1, mset_k (by decide), mset_k (by decide), mset_s]
  · rw [mset_k (by decide), mkset_1, mset_k (by decide), mset_s]
    rw [mset_k (k := 10) (k' := 8) (by decide)]
  · rw [mset_k (by decide), mkset_1, mset_k (by decide), mset_s]
    rw [mset_k (k := 10) (k' := 8) (by decide)]
  · rw [mset_k (by decide), mkset_1, mset_s]
    rw [mset_k (k := 8) (k' := 7) (by decide), mset_k (k := 10) (k' := 8) (by decide), mset_k (k := 10) (k' := 7) (by decide)]
  · rw [mset_k (by decide), mkset_1, mset_s]
    rw [mset_k (k := 8) (k' := 7) (by decide), mset_k (k := 10) (k' := 8) (by decide), mset_k (k := 10) (k' := 7) (by decide)]
theorem MI_thaws2 {S : MS} {np nv t i : Nat} (h : MI S np nv t) (hi : i < np) (hc : S.1 1 0 < 0) : MI (M_thaws S (nI i)) np nv t := by
  have hnp := h.1.2.1
  have hci : (nI i).toNatClampNeg = i := nI_clamp (by omega)
  refine MI_fz (i := i) h (fun k a b c d e => M_thaws_k a b d e) (fun k j _ hj => M_thaws_j (by rw [hci]; exact hj)) (fun _ => ?_)
  obtain ⟨b, wh, wa, sn, e1, e2, e3, e4, g1, g2, g3, g4⟩ := fz_data h hi
  have hr := h.2.2.2.2.2.1.1
  have hz : S.1 1 0 = nI 0 - nI (-(S.1 1 0).toInt).toNat := by
    rw [← Int32.toInt_inj]
    rw [Int32.lt_iff_toInt_lt, Int32.toInt_zero] at hc
    rw [Int32.toInt_sub, nI_toInt (by decide), nI_toInt (by omega), Int.bmod_eq_of_le (by omega) (by omega)]
    omega
  obtain ⟨c, hcc⟩ : ∃ c, c = (-(S.1 1 0).toInt).toNat := ⟨_, rfl⟩
  rw [← hcc] at hz
  have hc20 : c ≤ 20 := by omega
  have h6 : (-6) * S.1 1 0 = nI (6 * c) := by
    rw [hz]
    have : ∀ c, c ≤ 20 → (-6 : Int32) * (nI 0 - nI c) = nI (6 * c) := by decide +kernel
    exact this c hc20
  obtain ⟨v10, v8, v7⟩ := M_thaws_v (S := S) (p := nI i) rfl rfl rfl
  rw [hci] at v10 v8 v7
  rw [h6, e4, min_nI (by omega) (by omega)] at v10 v8 v7
  have m1 : min sn (6 * c) ≤ 6 * c := Nat.min_le_right _ _
  have m1' : min sn (6 * c) ≤ sn := Nat.min_le_left _ _
  rw [nI_sub' m1', ] at v10
  rw [e2, nI_sub' m1, min_nI (by omega) (by omega)] at v8 v7
  have m2 : min wh (6 * c - min sn (6 * c)) ≤ wh := Nat.min_le_left _ _
  have m2' : min wh (6 * c - min sn (6 * c)) ≤ 6 * c - min sn (6 * c) := Nat.min_le_right _ _
  rw [nI_sub' m2] at v8
  rw [e1, nI_sub' m2', min_nI (by omega) (by omega)] at v7
  have m3 : min b (6 * c - min sn (6 * c) - min wh (6 * c - min sn (6 * c))) ≤ b := Nat.min_le_left _ _
  rw [nI_sub' m3] at v7
  have v9 : (M_thaws S (nI i)).1 9 i = nI wa := by rw [M_thaws_k (by decide) (by decide) (by decide) (by decide)]; exact e3
  exact FZ_nI g4 v7 v8 v9 v10 (by omega) (by omega) (by omega)
