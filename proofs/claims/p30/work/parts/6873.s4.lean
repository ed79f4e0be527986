/-! ===== one piece and one vehicle change ===== -/
def iOn (M : MS) (p : Nat) (b : Int32) (n : Nat) : Nat := if M.1 20 n = 1 ∧ M.1 21 n = nI p ∧ M.1 22 n = b then 1 else 0
def wOn (M : MS) (p : Nat) (n : Nat) : Int32 := if M.1 20 n = 1 then (if M.1 21 n = nI p then M.1 17 n + M.1 24 n else 0) else 0
theorem cntOn_eq {M M' : MS} {p : Nat} {b : Int32} : ∀ n, (∀ i, i < n → iOn M' p b i = iOn M p b i) → cntOn M' p b n = cntOn M p b n
  | 0, _ => rfl
  | n + 1, h => by
    have e : iOn M' p b n = iOn M p b n := h n (Nat.lt_succ_self n)
    show cntOn M' p b n + iOn M' p b n = cntOn M p b n + iOn M p b n
    rw [cntOn_eq n (fun i hi => h i (by omega)), e]
theorem cntOn_one {M M' : MS} {p j : Nat} {b : Int32} : ∀ n, j < n → (∀ i, i < n → i ≠ j → iOn M' p b i = iOn M p b i) → cntOn M' p b n + iOn M p b j = cntOn M p b n + iOn M' p b j
  | 0, hj, _ => absurd hj (Nat.not_lt_zero _)
  | n + 1, hj, h => by
    show cntOn M' p b n + iOn M' p b n + iOn M p b j = cntOn M p b n + iOn M p b n + iOn M' p b j
    by_cases c : j = n
    · subst c
      have e := cntOn_eq (M := M) (M' := M') (p := p) (b := b) j (fun i hi => h i (by omega) (by omega))
      omega
    · have e1 := cntOn_one n (by omega) (fun i hi hn => h i (by omega) hn)
      have e2 := h n (by omega) (fun z => c z.symm)
      omega
theorem wts_s {M : MS} {p n : Nat} (hn : n < 2 ^ 31) : M_weights_f M (nI p) (n + 1) = M_weights_f M (nI p) n + wOn M p n := by
  show M_weights_s M (nI p) n (M_weights_f M (nI p) n) = _
  unfold M_weights_s M_weight wOn
  rw [nI_clamp hn]
theorem wts_eq {M M' : MS} {p : Nat} : ∀ n, n ≤ 16 → (∀ i, i < n → wOn M' p i = wOn M p i) → M_weights_f M' (nI p) n = M_weights_f M (nI p) n
  | 0, _, _ => rfl
  | n + 1, hn, h => by
    rw [wts_s (by omega), wts_s (by omega), wts_eq n (by omega) (fun i hi => h i (by omega)), h n (by omega)]
theorem wts_one {M M' : MS} {p j : Nat} : ∀ n, n ≤ 16 → j < n → (∀ i, i < n → i ≠ j → wOn M' p i = wOn M p i) → M_weights_f M' (nI p) n = M_weights_f M (nI p) n - wOn M p j + wOn M' p j
  | 0, _, hj, _ => absurd hj (Nat.not_lt_zero _)
  | n + 1, hn, hj, h => by
    rw [wts_s (by omega), wts_s (by omega)]
    by_cases c : j = n
    · subst c
      rw [wts_eq (M := M) (M' := M') j (by omega) (fun i hi => h i (by omega) (by omega))]
      grind
    · rw [wts_one n (by omega) (by omega) (fun i hi hq => h i (by omega) hq), h n (by omega) (fun z => c z.symm)]
      grind
/-- RXM without the reference's own invariant -/
def RXN (Z : XZ) (S : XS) (M : MS) (t : Nat) : Prop := WZ Z ∧ CW Z S ∧ Z.N 2 ≤ t ∧ S.1 0 0 6 = M.1 0 0 ∧ S.1 0 0 7 = M.1 1 0 ∧ S.1 0 0 8 = M.1 2 0 ∧ rng (M.1 0 0) 0 200000 ∧ rng (M.1 2 0) 0 120 ∧ (∀ p, p < Z.N 0 → RP S M (Z.N 1) p) ∧ (∀ j, j < Z.N 1 → RV S M j) ∧ (∀ g, g < 3 → RG Z S M t g) ∧
  (∀ i j, i < Z.N 1 → j < Z.N 1 → i ≠ j → ¬ S.2.2 i = 0 → S.2.2 i ≠ S.2.2 j) ∧
  (∀ j, Z.N 1 ≤ j → j < 16 → M.1 20 j = 0 ∧ M.1 21 j = 0 ∧ M.1 22 j = 0 ∧ M.1 23 j = 0 ∧ M.1 24 j = 0) ∧
  (∀ p, Z.N 0 ≤ p → p < 10 → M.1 7 p = 0 ∧ M.1 8 p = 0 ∧ M.1 9 p = 0 ∧ M.1 10 p = 0 ∧ M.1 11 p = 0 ∧ M.1 12 p = 0 ∧ (M.2 p).1 = 0)
theorem RXM.n {Z : XZ} {S : XS} {M : MS} {t : Nat} (h : RXM Z S M t) : RXN Z S M t := ⟨h.1, h.2.1, h.2.2.2⟩
theorem RXM.i {Z : XZ} {S : XS} {M : MS} {t : Nat} (h : RXM Z S M t) : MI M (Z.N 0) (Z.N 1) t := h.2.2.1
theorem RXN.m {Z : XZ} {S : XS} {M : MS} {t : Nat} (h : RXN Z S M t) (hI : MI M (Z.N 0) (Z.N 1) t) : RXM Z S M t := ⟨h.1, h.2.1, hI, h.2.2⟩
theorem RXN.p {Z : XZ} {S : XS} {M : MS} {t p : Nat} (h : RXN Z S M t) (hp : p < Z.N 0) : RP S M (Z.N 1) p := h.2.2.2.2.2.2.2.2.1 p hp
theorem RXN.v {Z : XZ} {S : XS} {M : MS} {t j : Nat} (h : RXN Z S M t) (hj : j < Z.N 1) : RV S M j := h.2.2.2.2.2.2.2.2.2.1 j hj
theorem RXN.g {Z : XZ} {S : XS} {M : MS} {t g : Nat} (h : RXN Z S M t) (hg : g < 3) : RG Z S M t g := h.2.2.2.2.2.2.2.2.2.2.1 g hg
theorem RXN.d {Z : XZ} {S : XS} {M : MS} {t : Nat} (h : RXN Z S M t) : ∀ i j, i < Z.N 1 → j < Z.N 1 → i ≠ j → ¬ S.2.2 i = 0 → S.2.2 i ≠ S.2.2 j := h.2.2.2.2.2.2.2.2.2.2.2.1
theorem RXN_go {Z : XZ} {S S' : XS} {M M' : MS} {t p j : Nat} (h : RXN Z S M t) (hp : p < Z.N 0 ∨ 10 ≤ p) (hj : j < Z.N 1 ∨ 16 ≤ j)
    (s0 : S'.1 0 = S.1 0) (s1 : ∀ q, q ≠ p → S'.1 1 q = S.1 1 q) (s2 : ∀ i, i ≠ j → S'.1 2 i = S.1 2 i) (s3 : ∀ c, ¬ (j < Z.N 1 ∧ c + 1 = S.2.2 j) → S'.1 3 c = S.1 3 c) (sk : ∀ q, q ≠ p → S'.2.1 q = S.2.1 q) (sc : ∀ i, i ≠ j → S'.2.2 i = S.2.2 i)
    (m : ∀ k i, k ≠ 29 → ¬ (7 ≤ k ∧ k ≤ 13 ∧ i = p) → ¬ (k = 15 ∧ (i = 2 * p ∨ i = 2 * p + 1)) → ¬ (20 ≤ k ∧ k ≤ 25 ∧ i = j) → ¬ (k = 26 ∨ k = 27) → M'.1 k i = M.1 k i) (mk : ∀ q, q ≠ p → M'.2 q = M.2 q)
    (hP : p < Z.N 0 → RP S' M' (Z.N 1) p) (hV : j < Z.N 1 → RV S' M' j) (hG : ∀ g, g < 3 → RG Z S' M' t g) (hC : S'.2.2 j = 0 ∨ S'.2.2 j = S.2.2 j)
    (hon : j < Z.N 1 → ∀ q, q ≠ p → q < Z.N 0 → ¬ (M.1 20 j = 1 ∧ M.1 21 j = nI q) ∧ ¬ (M'.1 20 j = 1 ∧ M'.1 21 j = nI q)) : RXN Z S' M' t := by
  obtain ⟨h1, h2, h4, h5, h6, h7, h8, h9, h10, h11, h12, h13, h14, h15⟩ := h
  obtain ⟨w1, w2, w3, w4, w5, w6, w7⟩ := id h1
  refine ⟨h1, fun i => ?_, h4, ?_, ?_, ?_, ?_, ?_, fun q hq => ?_, fun i hi => ?_, hG, fun i i2 hi hi2 hn hc => ?_, fun i hi hi2 => ?_, fun q hq hq2 => ?_⟩
  · by_cases c : i = j
    · subst c
      rcases hC with e | e
      · rw [e]; exact Nat.zero_le _
      · rw [e]; exact h2 i
    · rw [sc i c]; exact h2 i
  · rw [s0, m 0 0 (by omega) (by omega) (by omega) (by omega) (by omega)]; exact h5
  · rw [s0, m 1 0 (by omega) (by omega) (by omega) (by omega) (by omega)]; exact h6
  · rw [s0, m 2 0 (by omega) (by omega) (by omega) (by omega) (by omega)]; exact h7
  · rw [m 0 0 (by omega) (by omega) (by omega) (by omega) (by omega)]; exact h8
  · rw [m 2 0 (by omega) (by omega) (by omega) (by omega) (by omega)]; exact h9
  · by_cases c : q = p
    · subst c; exact hP hq
    · have e := h10 q hq
      have f : ∀ k, 4 ≤ k → k ≤ 13 → M'.1 k q = M.1 k q := fun k a b => m k q (by omega) (by omega) (by omega) (by omega) (by omega)
      have g1 : ∀ b, cntOn M' q b (Z.N 1) = cntOn M q b (Z.N 1) := fun b => cntOn_eq _ (fun i hi => by
        unfold iOn
        by_cases d : i = j
        · subst d
          obtain ⟨o1, o2⟩ := hon hi q c hq
          rw [if_neg (fun z => o2 ⟨z.1, z.2.1⟩), if_neg (fun z => o1 ⟨z.1, z.2.1⟩)]
        · rw [m 20 i (by omega) (by omega) (by omega) (by omega) (by omega), m 21 i (by omega) (by omega) (by omega) (by omega) (by omega), m 22 i (by omega) (by omega) (by omega) (by omega) (by omega)])
      have g2 : M_weights_f M' (nI q) (Z.N 1) = M_weights_f M (nI q) (Z.N 1) := wts_eq _ w5 (fun i hi => by
        unfold wOn
        by_cases d : i = j
        · subst d
          obtain ⟨o1, o2⟩ := hon hi q c hq
          have e1 : (if M'.1 20 i = 1 then (if M'.1 21 i = nI q then M'.1 17 i + M'.1 24 i else 0) else 0) = 0 := by
            by_cases x1 : M'.1 20 i = 1
            · rw [if_pos x1, if_neg (fun z => o2 ⟨x1, z⟩)]
            · rw [if_neg x1]
          have e2 : (if M.1 20 i = 1 then (if M.1 21 i = nI q then M.1 17 i + M.1 24 i else 0) else 0) = 0 := by
            by_cases x1 : M.1 20 i = 1
            · rw [if_pos x1, if_neg (fun z => o1 ⟨x1, z⟩)]
            · rw [if_neg x1]
          rw [e1, e2]
        · rw [m 20 i (by omega) (by omega) (by omega) (by omega) (by omega), m 21 i (by omega) (by omega) (by omega) (by omega) (by omega), m 17 i (by omega) (by omega) (by omega) (by omega) (by omega), m 24 i (by omega) (by omega) (by omega) (by omega) (by omega)])
      unfold RP at e ⊢
      rw [s1 q c, f 4 (by omega) (by omega), f 5 (by omega) (by omega), f 6 (by omega) (by omega), f 7 (by omega) (by omega), f 8 (by omega) (by omega), f 9 (by omega) (by omega), f 10 (by omega) (by omega), f 11 (by omega) (by omega), f 12 (by omega) (by omega), f 13 (by omega) (by omega), sk q c, mk q c, g1, g1, g2, m 15 (2 * q + 1) (by omega) (by omega) (by omega) (by omega) (by omega), m 15 (2 * q) (by omega) (by omega) (by omega) (by omega) (by omega)]
      exact e
  · by_cases c : i = j
    · subst c; exact hV hi
    · have e := h11 i hi
      have f : ∀ k, 17 ≤ k → k ≤ 25 → M'.1 k i = M.1 k i := fun k a b => m k i (by omega) (by omega) (by omega) (by omega) (by omega)
      unfold RV at e ⊢
      rw [s2 i c, sc i c, f 17 (by omega) (by omega), f 18 (by omega) (by omega), f 19 (by omega) (by omega), f 20 (by omega) (by omega), f 21 (by omega) (by omega), f 22 (by omega) (by omega), f 23 (by omega) (by omega), f 24 (by omega) (by omega), f 25 (by omega) (by omega)]
      refine ⟨e.1, e.2.1, e.2.2.1, e.2.2.2.1, e.2.2.2.2.1, e.2.2.2.2.2.1, e.2.2.2.2.2.2.1, ?_⟩
      rcases e.2.2.2.2.2.2.2 with d | ⟨d, d2⟩
      · exact Or.inl d
      · refine Or.inr ⟨d, ?_⟩
        rw [s3 (S.2.2 i - 1) (fun z => by
          have := h13 i j hi z.1 c d
          have := z.2
          omega)]
        exact d2
  · by_cases c : i = j
    · subst c
      by_cases c2 : i2 = i
      · exact absurd c2.symm hn
      · rcases hC with e | e
        · exact absurd e hc
        · rw [e] at hc ⊢
          rw [sc i2 c2]
          exact h13 i i2 hi hi2 hn hc
    · by_cases c2 : i2 = j
      · subst c2
        rw [sc i c] at hc ⊢
        rcases hC with e | e
        · rw [e]; exact hc
        · rw [e]; exact h13 i i2 hi hi2 hn hc
      · rw [sc i c] at hc ⊢
        rw [sc i2 c2]
        exact h13 i i2 hi hi2 hn hc
  · have f : ∀ k, 20 ≤ k → k ≤ 24 → M'.1 k i = M.1 k i := fun k a b => m k i (by omega) (by omega) (by omega) (by omega) (by omega)
    rw [f 20 (by omega) (by omega), f 21 (by omega) (by omega), f 22 (by omega) (by omega), f 23 (by omega) (by omega), f 24 (by omega) (by omega)]
    exact h14 i hi hi2
  · have f : ∀ k, 7 ≤ k → k ≤ 12 → M'.1 k q = M.1 k q := fun k a b => m k q (by omega) (by omega) (by omega) (by omega) (by omega)
    rw [f 7 (by omega) (by omega), f 8 (by omega) (by omega), f 9 (by omega) (by omega), f 10 (by omega) (by omega), f 11 (by omega) (by omega), f 12 (by omega) (by omega), mk q (by omega)]
    exact h15 q hq hq2
