/-! ===== what is alike between two calls; a minute, minutes ===== -/
def RXA (Z : XZ) (S : XS) (M : MS) (t : Nat) : Prop := RXN Z S M t ∧ MI M (Z.N 0) (Z.N 1) t ∧ BI M (Z.N 1) t
theorem RXN_t {Z : XZ} {S : XS} {M : MS} {t : Nat} (h : RXN Z S M t) : RXN Z S M (t + 1) := by
  obtain ⟨h1, h2, h4, h5, h6, h7, h8, h9, h10, h11, h12, h13⟩ := h
  refine ⟨h1, h2, by omega, h5, h6, h7, h8, h9, h10, h11, fun g hg => ?_, h13⟩
  obtain ⟨a, b, c, d, e, f⟩ := h12 g hg
  exact ⟨a, b, c, d, ⟨e.1, by have := e.2; omega⟩, f⟩
theorem RXA_t {Z : XZ} {S : XS} {M : MS} {t : Nat} (h : RXA Z S M t) (ht : t < 512) : RXA Z S M (t + 1) := ⟨RXN_t h.1, MI_t h.2.1 ht, BI_t h.2.2⟩
theorem RXA_29 {Z : XZ} {S : XS} {M : MS} {t j : Nat} {v : Int32} (h : RXA Z S M t) : RXA Z S (mset M 29 j v) t := ⟨RXN_29 h.1, MI_set h.2.1 (by decide) rfl, BI_set h.2.2 (by decide) (by decide)⟩
theorem RXA_0 (a : Nat) (ad : Nat → Nat) : RXA (XZ0 a ad) XS0 MS0 0 := ⟨(RXM_0 a ad).n, (RXM_0 a ad).i, fun g _ => by
  show 0 ≤ (0 : Int32).toInt ∧ (0 : Int32).toInt + (0 : Int) ≤ 60000 * (0 : Nat)
  decide⟩
/-- minute, cold, gap -/
theorem RXN_s {Z : XZ} {S : XS} {M : MS} {t k : Nat} {v : Int32} (h : RXN Z S M t) (hk : k < 3) (h0 : k = 0 → rng v 0 200000) (h2 : k = 2 → rng v 0 120) : RXN Z (xset S 0 0 (k + 6) v) (mset M k 0 v) t := by
  obtain ⟨h1, h2', h4, h5, h6, h7, h8, h9, h10, h11, h12, h13, h14, h15⟩ := h
  have hv : Z.N 1 ≤ 16 := h1.2.2.2.2.1
  have m : ∀ k', 3 ≤ k' → (mset M k 0 v).1 k' = M.1 k' := fun k' a => mset_k (by omega)
  have s : ∀ k', k' ≠ 0 → (xset S 0 0 (k + 6) v).1 k' = S.1 k' := fun k' a => xset_kk a
  have sc : ∀ k', k' < 3 → S.1 0 0 (k' + 6) = M.1 k' 0 → (xset S 0 0 (k + 6) v).1 0 0 (k' + 6) = (mset M k 0 v).1 k' 0 := fun k' a e => by
    by_cases c : k' = k
    · subst c
      rw [xset_s, mset_s]
    · rw [xset_f (by omega), mset_k c]
      exact e
  refine ⟨h1, h2', h4, sc 0 (by omega) h5, sc 1 (by omega) h6, sc 2 (by omega) h7, ?_, ?_, fun p hp => ?_, fun j hj => ?_, fun g hg => RG_eq (h12 g hg) (s 5 (by decide)) (s 3 (by decide)) (m 26 (by omega)) (m 27 (by omega)) (m 28 (by omega)), h13, fun j a b => ?_, fun p a b => ?_⟩
  · by_cases c : k = 0
    · subst c
      rw [mset_s]; exact h0 rfl
    · rw [mset_k (fun z => c z.symm)]; exact h8
  · by_cases c : k = 2
    · subst c
      rw [mset_s]; exact h2 rfl
    · rw [mset_k (fun z => c z.symm)]; exact h9
  · have e := h10 p hp
    unfold RP at e ⊢
    rw [s 1 (by decide), m 4 (by omega), m 5 (by omega), m 6 (by omega), m 7 (by omega), m 8 (by omega), m 9 (by omega), m 10 (by omega), m 11 (by omega), m 12 (by omega), m 13 (by omega), m 15 (by omega), cnt_k (m 20 (by omega)) (m 21 (by omega)) (m 22 (by omega)), cnt_k (m 20 (by omega)) (m 21 (by omega)) (m 22 (by omega)), wts_k hv (m 20 (by omega)) (m 21 (by omega)) (m 17 (by omega)) (m 24 (by omega))]
    exact e
  · have e := h11 j hj
    unfold RV at e ⊢
    rw [s 2 (by decide), s 3 (by decide), m 17 (by omega), m 18 (by omega), m 19 (by omega), m 20 (by omega), m 21 (by omega), m 22 (by omega), m 23 (by omega), m 24 (by omega), m 25 (by omega)]
    exact e
  · rw [m 20 (by omega), m 21 (by omega), m 22 (by omega), m 23 (by omega), m 24 (by omega)]
    exact h14 j a b
  · rw [m 7 (by omega), m 8 (by omega), m 9 (by omega), m 10 (by omega), m 11 (by omega), m 12 (by omega)]
    exact h15 p a b
theorem M_unl_k {M : MS} {v b : Int32} {k : Nat} (h : ¬ (24 ≤ k ∧ k ≤ 27)) : (M_unloads M v b).1 k = M.1 k := by
  unfold M_unloads
  dsimp only
  rw [mset_k (by omega), mset_k (by omega)]
  split
  · rfl
  · rw [mset_k (by omega), mset_k (by omega)]
theorem M_arr_k {M : MS} {v : Int32} {k : Nat} (h : ¬ (20 ≤ k ∧ k ≤ 27)) : (M_arrives M v).1 k = M.1 k := by
  unfold M_arrives
  dsimp only
  rw [M_unl_k (by omega), mset_k (by omega)]
theorem ite_k {c : Prop} [Decidable c] {A B : MS} {k : Nat} {x : Nat → Int32} (hA : A.1 k = x) (hB : B.1 k = x) : (if c then A else B).1 k = x := by
  split
  · exact hA
  · exact hB
theorem M_lv_k {M : MS} {v : Int32} {k : Nat} (h : ¬ (20 ≤ k ∧ k ≤ 27)) (h7 : k ≠ 7) : (M_leaves M v).1 k = M.1 k := by
  unfold M_leaves
  dsimp only
  exact ite_k ((M_arr_k h).trans ((mset_k (by omega)).trans ((mset_k (by omega)).trans (ite_k (mset_k h7) rfl)))) ((mset_k (by omega)).trans ((mset_k (by omega)).trans (ite_k (mset_k h7) rfl)))
theorem M_cm_k {M : MS} {v : Int32} {k : Nat} (h : ¬ (20 ≤ k ∧ k ≤ 27)) (h1 : k ≠ 11) (h2 : k ≠ 12) (h5 : k ≠ 15) : (M_comes M v).1 k = M.1 k := by
  unfold M_comes
  dsimp only
  split
  · rw [mset_k (by omega), mset_k (by omega), mset_k (by omega), mset_k (by omega), mset_k (by omega), mset_k (by omega)]
  · rw [mset_k (by omega), mset_k (by omega), mset_k (by omega), mset_k (by omega)]
theorem M_ps_k {M : MS} {n k : Nat} (h : ¬ (20 ≤ k ∧ k ≤ 27)) (h7 : k ≠ 7) (h1 : k ≠ 11) (h2 : k ≠ 12) (h5 : k ≠ 15) : (M_passes_s M n).1 k = M.1 k := by
  have e : ∀ M1 : MS, (if M1.1 20 (nI n).toNatClampNeg = 2 then (if M_against M1 (nI n) = 0 then M_comes M1 (nI n) else M1) else M1).1 k = M1.1 k := fun M1 => by
    split
    · split
      · exact M_cm_k h h1 h2 h5
      · rfl
    · rfl
  unfold M_passes_s
  dsimp only
  rw [e]
  split
  · split
    · rfl
    · exact M_lv_k h h7
  · rfl
theorem M_pf_k {M : MS} {k : Nat} (h : ¬ (20 ≤ k ∧ k ≤ 27)) (h7 : k ≠ 7) (h1 : k ≠ 11) (h2 : k ≠ 12) (h5 : k ≠ 15) : ∀ n, (M_passes_f M n).1 k = M.1 k
  | 0 => rfl
  | n + 1 => (M_ps_k h h7 h1 h2 h5).trans (M_pf_k h h7 h1 h2 h5 n)
theorem M_es_k {M : MS} {n k : Nat} (h : ¬ (7 ≤ k ∧ k ≤ 11)) : (M_ends_s M n).1 k = M.1 k := by
  unfold M_ends_s
  dsimp only
  split
  · split
    · rfl
    · exact M_thaws_k (by omega) (by omega) (by omega) (by omega)
  · split
    · exact M_freezes_k (by omega) (by omega) (by omega) (by omega)
    · split
      · rfl
      · exact M_thaws_k (by omega) (by omega) (by omega) (by omega)
theorem M_ef_k {M : MS} {k : Nat} (h : ¬ (7 ≤ k ∧ k ≤ 11)) : ∀ n, (M_ends_f M n).1 k = M.1 k
  | 0 => rfl
  | n + 1 => (M_es_k h).trans (M_ef_k h n)
theorem M_e_k {M : MS} {k : Nat} (h : ¬ (7 ≤ k ∧ k ≤ 11)) : (M_ends M).1 k = M.1 k := M_ef_k h _
theorem moves_f {Z : XZ} {S : XS} {M : MS} {t : Nat} (h : RXA Z S M t) : ∀ n, n ≤ Z.N 1 → RXA Z (X_passOneMinute_f S Z n) (M_passes_f M n) t
  | 0, _ => h
  | n + 1, hn => by
    obtain ⟨a, b, c⟩ := moves_f h n (by omega)
    obtain ⟨d, e⟩ := move_eq a c b (show n < Z.N 1 by omega)
    exact ⟨d, MI_passes_s b (by omega), e⟩
theorem minute_eq {Z : XZ} {S : XS} {M : MS} {t a : Nat} (h : RXA Z S M t) (ha : M.1 0 0 = nI a) (h2 : a < 200000) : RXA Z (X_passOneMinute Z S) (M_passes M) t ∧ (M_passes M).1 0 0 = nI (a + 1) := by
  obtain ⟨h, hI, hB⟩ := h
  have en : S.1 0 0 6 = M.1 0 0 := h.2.2.2.1
  have h1 : RXN Z (xset S 0 0 6 (nI (a + 1))) (mset M 0 0 (nI (a + 1))) t := RXN_s (k := 0) h (by omega) (fun _ => ⟨by rw [nI_toInt (by omega)]; omega, by rw [nI_toInt (by omega)]; omega⟩) (fun z => absurd z (by decide))
  have hI1 : MI (mset M 0 0 (nI (a + 1))) (Z.N 0) (Z.N 1) t := MI_set hI (by decide) rfl
  have hB1 : BI (mset M 0 0 (nI (a + 1))) (Z.N 1) t := BI_set hB (by decide) (by decide)
  have m0 : (mset M 0 0 (nI (a + 1))).1 0 0 = nI (a + 1) := mset_s
  have s0 : (xset S 0 0 6 (nI (a + 1))).1 0 0 6 = nI (a + 1) := xset_s
  have hnv := h.nv
  unfold X_passOneMinute M_passes
  simp only [en, ha, nI_1, m0, s0]
  have key : ∀ (S2 : XS) (M2 : MS), RXA Z S2 M2 t → M2.1 0 0 = nI (a + 1) → RXA Z (X_passOneMinute_f S2 Z (Z.N 1)) (M_passes_f M2 (M2.1 16 0).toNatClampNeg) t ∧ (M_passes_f M2 (M2.1 16 0).toNatClampNeg).1 0 0 = nI (a + 1) := fun S2 M2 g g0 => by
    rw [g.2.1.1.2.2.1, nI_clamp (by omega)]
    exact ⟨moves_f g _ (Nat.le_refl _), by rw [M_pf_k (by omega) (by omega) (by omega) (by omega) (by omega)]; exact g0⟩
  by_cases c : nI (a + 1) - nI (a + 1) / 1440 * 1440 = 0
  · rw [if_pos c, if_pos c]
    refine key _ _ ⟨end_eq h1 hI1, MI_ends hI1, BI_eq hB1 (M_e_k (by omega)) (M_e_k (by omega))⟩ ?_
    rw [M_e_k (by omega)]
    exact m0
  · rw [if_neg c, if_neg c]
    exact key _ _ ⟨h1, hI1, hB1⟩ m0
theorem pass_f {Z : XZ} {S : XS} {M : MS} {t a : Nat} (h : RXA Z S M t) (ha : M.1 0 0 = nI a) : ∀ n, a + n ≤ 200000 → RXA Z (X_pass_f S Z n) (M_pass_f M n) t ∧ (M_pass_f M n).1 0 0 = nI (a + n)
  | 0, _ => ⟨h, ha⟩
  | n + 1, hn => by
    obtain ⟨b, c⟩ := pass_f h ha n (by omega)
    exact minute_eq (a := a + n) b c (by omega)
theorem st_pass {Z : XZ} {S : XS} {M : MS} {t : Nat} (h : RXA Z S M t) (ht : t < 512) (uk : Int32) : SA (X_pass Z S uk).1 (X_pass Z S uk).2.1 (M_pass M uk).1 (M_pass M uk).2 (cdL EIAE EISE) (RXA Z (X_pass Z S uk).2.2 (M_pass M uk).2 (t + 1)) (RXA Z S (M_pass M uk).2 (t + 1)) := by
  have en : S.1 0 0 6 = M.1 0 0 := h.1.2.2.2.1
  unfold X_pass M_pass
  rcases nR_iff (Z := Z) (S := S) (M := M) (x := uk) (a := 1) (b := 3000) with ⟨c1, c2⟩ | ⟨c1, c2⟩
  · rw [if_pos c1, if_pos c2, en]
    by_cases c : M.1 0 0 + uk ≤ 200000
    · rw [if_pos c, if_pos c]
      obtain ⟨a, ea, -, ha⟩ := rng_nI (a := 0) (b := 200000) h.1.2.2.2.2.2.2.1
      obtain ⟨k, ek, -, hk⟩ := rng_nI (x := uk) (a := 1) (b := 3000) ⟨by
        have := c2.1
        rw [Int32.lt_iff_toInt_lt] at this
        rw [show (1 : Int32).toInt = 1 by decide] at this
        omega, by
        have := c2.2
        rw [Int32.lt_iff_toInt_lt] at this
        rw [show (3000 : Int32).toInt = 3000 by decide] at this
        omega⟩
      rw [ea, ek, nI_add] at c
      have hs : a + k ≤ 200000 := (nI_leI (b := 200000) (by omega) (by decide)).mp c
      have e0 : (mset M 29 0 0).1 0 0 = nI a := by rw [mset_k (by decide)]; exact ea
      have ek2 : uk.toNatClampNeg = k := by rw [ek, nI_clamp (by omega)]
      obtain ⟨r1, r2⟩ := pass_f (RXA_29 (j := 0) (v := 0) h) e0 k hs
      have r3 : (M_pass_f (mset M 29 0 0) k).1 29 0 = 0 := by
        have z : ∀ n, (M_pass_f (mset M 29 0 0) n).1 29 = (mset M 29 0 0).1 29 := fun n => by
          induction n with
          | zero => rfl
          | succ n ih =>
            rw [← ih]
            show (M_passes (M_pass_f (mset M 29 0 0) n)).1 29 = _
            unfold M_passes
            dsimp only
            rw [M_pf_k (by omega) (by omega) (by omega) (by omega) (by omega)]
            split
            · rw [M_e_k (by omega), mset_k (by decide)]
            · rw [mset_k (by decide)]
        rw [z, mset_s]
      dsimp only
      rw [ek2]
      refine Or.inl ⟨rfl, r3, ?_, RXA_t r1 ht⟩
      exact r1.1.2.2.2.1
    · rw [if_neg c, if_neg c]
      exact Or.inr ⟨EISE, rfl, by show (mset M 29 0 2).1 29 0 = _; rw [mset_s, cdL_2 (by decide)], RXA_t (RXA_29 h) ht⟩
  · rw [if_neg (by rw [c1]; exact fun z => nomatch z), if_neg c2]
    exact Or.inr ⟨EIAE, c1, by show (mset M 29 0 1).1 29 0 = _; rw [mset_s, cdL_1], RXA_t (RXA_29 h) ht⟩
