/-! ===== steps of both: one piece and one vehicle change, all else stays ===== -/
theorem LRR_go {M M' : MS} {S S' : LwS} {np nv p j : Nat} (h : LRR M S np nv) (hp : p < np ∨ 8 ≤ p) (hj : j < nv ∨ 8 ≤ j) (g : LRg M' S' np nv) (gk : ∀ i, i < 3 → LRk M' S' i)
    (mo : ∀ i, i < 8 → i ≠ p → (∀ k, 4 ≤ k → k ≤ 13 → M'.1 k i = M.1 k i) ∧ M'.2 i = M.2 i ∧ M'.1 15 (2 * i) = M.1 15 (2 * i) ∧ M'.1 15 (2 * i + 1) = M.1 15 (2 * i + 1))
    (so : ∀ i, i < 8 → i ≠ p → S' 1 i = S 1 i ∧ S' 2 i = S 2 i ∧ S' 2 (8 + i) = S 2 (8 + i) ∧ (∀ r, r ≤ 6 → S' 0 (8 * r + i) = S 0 (8 * r + i)))
    (mv : ∀ i, i < 8 → i ≠ j → ∀ k, 17 ≤ k → k ≤ 25 → M'.1 k i = M.1 k i)
    (sv : ∀ i, i < 8 → i ≠ j → S' 3 i = S 3 i ∧ (∀ r, r ≤ 4 → S' 4 (8 * r + i) = S 4 (8 * r + i)))
    (hP : p < np → LRp M' S' p ∧ LRq M' S' p) (hV : j < nv → LRw M' S' j ∧ LRx M' S' j) : LRR M' S' np nv := by
  have hn := h.1
  have hv := h.2.1
  have s00 : ∀ i, i < 8 → i ≠ p → S' 0 i = S 0 i := fun i a b => by
    have := (so i a b).2.2.2 0 (by omega)
    rw [show 8 * 0 + i = i by omega] at this
    exact this
  have s40 : ∀ i, i < 8 → i ≠ j → S' 4 i = S 4 i := fun i a b => by
    have := (sv i a b).2 0 (by omega)
    rw [show 8 * 0 + i = i by omega] at this
    exact this
  refine ⟨hn, hv, g, fun i hi => ?_, fun i hi => ?_, gk, fun i hi h8 => ?_, fun i hi h8 => ?_⟩
  · by_cases c : i = p
    · subst c
      exact hP hi
    · obtain ⟨m1, m2, m3, m4⟩ := mo i (by omega) c
      obtain ⟨s1, s2, s3, s4⟩ := so i (by omega) c
      have z0 := s00 i (by omega) c
      obtain ⟨⟨kk, cc, oo, ll, a1, a2, a3, a4, a5, a6, a7, a8, a9, a10⟩, b1, b2, b3, b4, b5, b6, b7, b8, b9, b10⟩ := h.2.2.2.1 i hi
      refine ⟨⟨kk, cc, oo, ll, a1, a2, a3, a4, a5, ?_, ?_, ?_, ?_, ?_⟩, ?_, ?_, ?_, ?_, ?_, ?_, ?_, ?_, ?_, ?_⟩
      · rw [m1 4 (by omega) (by omega)]; exact a6
      · rw [m1 11 (by omega) (by omega)]; exact a7
      · rw [m1 12 (by omega) (by omega)]; exact a8
      · rw [m1 13 (by omega) (by omega)]; exact a9
      · rw [s1]; exact a10
      · rw [s2, m1 5 (by omega) (by omega)]; exact b1
      · rw [s3, m1 6 (by omega) (by omega)]; exact b2
      · rw [z0, m1 7 (by omega) (by omega)]; exact b3
      · rw [m1 8 (by omega) (by omega)]; exact (s4 1 (by omega)).trans b4
      · rw [m1 9 (by omega) (by omega)]; exact (s4 2 (by omega)).trans b5
      · rw [m1 10 (by omega) (by omega)]; exact (s4 3 (by omega)).trans b6
      · rw [m2, b7]; exact congrArg hD (s4 4 (by omega)).symm
      · exact (s4 4 (by omega)).symm ▸ b8
      · rw [m3]; exact (s4 5 (by omega)).trans b9
      · rw [m4]; exact (s4 6 (by omega)).trans b10
  · by_cases c : i = j
    · subst c
      exact hV hi
    · have m1 := mv i (by omega) c
      obtain ⟨s1, s4⟩ := sv i (by omega) c
      have z0 := s40 i (by omega) c
      obtain ⟨⟨w, a, y, gg, a1, a2, a3, a4, a5, a6, a7, a8, a9, a10⟩, b1, b2, b3, b4, b5⟩ := h.2.2.2.2.1 i hi
      refine ⟨⟨w, a, y, gg, a1, a2, a3, a4, ?_, ?_, ?_, ?_, ?_, ?_⟩, ?_, ?_, ?_, ?_, ?_⟩
      · rw [m1 20 (by omega) (by omega)]; exact a5
      · rw [m1 21 (by omega) (by omega)]; exact a6
      · rw [m1 22 (by omega) (by omega)]; exact a7
      · rw [m1 25 (by omega) (by omega)]; exact a8
      · rw [s1]; exact a9
      · rw [m1 24 (by omega) (by omega)]; exact a10
      · rw [z0, m1 17 (by omega) (by omega)]; exact b1
      · rw [m1 24 (by omega) (by omega)]; exact (s4 1 (by omega)).trans b2
      · rw [m1 18 (by omega) (by omega)]; exact (s4 2 (by omega)).trans b3
      · rw [m1 19 (by omega) (by omega)]; exact (s4 3 (by omega)).trans b4
      · rw [m1 23 (by omega) (by omega)]; exact (s4 4 (by omega)).trans b5
  · have c : i ≠ p := by omega
    obtain ⟨s1, s2, s3, s4⟩ := so i h8 c
    obtain ⟨b1, b2, b3, b4, b5⟩ := h.2.2.2.2.2.2.1 i hi h8
    exact ⟨(s00 i h8 c).trans b1, (s4 1 (by omega)).trans b2, (s4 2 (by omega)).trans b3, (s4 3 (by omega)).trans b4, (s4 4 (by omega)).trans b5⟩
  · have c : i ≠ j := by omega
    obtain ⟨s1, s4⟩ := sv i h8 c
    obtain ⟨b1, b2, b3⟩ := h.2.2.2.2.2.2.2 i hi h8
    exact ⟨s1.trans b1, (s4 1 (by omega)).trans b2, (s4 4 (by omega)).trans b3⟩
theorem lset_j {S : LwS} {k j k' j' : Nat} {v : Int32} (h : j' ≠ j) : lset S k j v k' j' = S k' j' := if_neg fun z => h z.2
/-- a value of a piece -/
theorem LRR_f {M : MS} {S : LwS} {np nv p k ix : Nat} {v : Int32} (h : LRR M S np nv) (hp : p < np) (hk : (k = 7 ∧ ix = p) ∨ (k = 8 ∧ ix = 8 + p) ∨ (k = 9 ∧ ix = 16 + p) ∨ (k = 10 ∧ ix = 24 + p)) : LRR (mset M k p v) (lset S 0 ix v) np nv := by
  have hn := h.1
  have hk2 : 7 ≤ k ∧ k ≤ 10 := by omega
  have hix : ix ≤ 32 := by omega
  refine LRR_go (p := p) (j := 8) h (Or.inl hp) (Or.inr (by omega)) ?_ (fun i hi => ?_) (fun i hi hne => ⟨fun k' _ _ => mset_j hne, rfl, ?_, ?_⟩) (fun i hi hne => ⟨lset_n (by omega), lset_n (by omega), lset_n (by omega), fun r hr => lset_n (by omega)⟩) (fun i hi hne k' _ _ => by rw [mset_k (by omega)]) (fun i hi hne => ⟨lset_n (by omega), fun r hr => lset_n (by omega)⟩) (fun _ => ?_) (fun z => absurd z (by have := h.2.1; omega))
  · obtain ⟨g1, g2, g3, g4, g5⟩ := h.g
    unfold LRg
    rw [lset_k (by decide), mset_k (by omega), mset_k (by omega), mset_k (by omega)]
    exact ⟨g1, g2, g3, g4, g5⟩
  · have := h.k hi
    unfold LRk at this ⊢
    rw [lset_k (by decide), mset_k (by omega), mset_k (by omega), mset_k (by omega)]
    exact this
  · rw [mset_k (by omega)]
  · rw [mset_k (by omega)]
  · obtain ⟨kk, cc, oo, ll, a1, a2, a3, a4, a5, a6, a7, a8, a9, a10⟩ := h.p hp
    obtain ⟨b1, b2, b3, b4, b5, b6, b7, b8, b9, b10⟩ := h.q hp
    refine ⟨⟨kk, cc, oo, ll, a1, a2, a3, a4, a5, by rw [mset_k (by omega)]; exact a6, by rw [mset_k (by omega)]; exact a7, by rw [mset_k (by omega)]; exact a8, by rw [mset_k (by omega)]; exact a9, by rw [lset_k (by decide)]; exact a10⟩, ?_⟩
    unfold LRq
    rw [lset_k (show (2 : Nat) ≠ 0 by decide), mset_k (show (5 : Nat) ≠ k by omega), mset_k (show (6 : Nat) ≠ k by omega), mset_k (show (15 : Nat) ≠ k by omega), lset_n (show ¬ (0 = 0 ∧ 32 + p = ix) by omega), lset_n (show ¬ (0 = 0 ∧ 40 + p = ix) by omega), lset_n (show ¬ (0 = 0 ∧ 48 + p = ix) by omega)]
    rcases hk with ⟨rfl, rfl⟩ | ⟨rfl, rfl⟩ | ⟨rfl, rfl⟩ | ⟨rfl, rfl⟩
    · rw [lset_s, mset_s, lset_n (by omega), lset_n (by omega), lset_n (by omega), mset_k (by decide), mset_k (by decide), mset_k (by decide)]
      exact ⟨b1, b2, rfl, b4, b5, b6, b7, b8, b9, b10⟩
    · rw [lset_s, mset_s, lset_n (by omega), lset_n (by omega), lset_n (by omega), mset_k (by decide), mset_k (by decide), mset_k (by decide)]
      exact ⟨b1, b2, b3, rfl, b5, b6, b7, b8, b9, b10⟩
    · rw [lset_s, mset_s, lset_n (by omega), lset_n (by omega), lset_n (by omega), mset_k (by decide), mset_k (by decide), mset_k (by decide)]
      exact ⟨b1, b2, b3, b4, rfl, b6, b7, b8, b9, b10⟩
    · rw [lset_s, mset_s, lset_n (by omega), lset_n (by omega), lset_n (by omega), mset_k (by decide), mset_k (by decide), mset_k (by decide)]
      exact ⟨b1, b2, b3, b4, b5, rfl, b7, b8, b9, b10⟩
/-- the known thickness -/
theorem LRR_kn {M : MS} {S : LwS} {np nv p : Nat} {c : Int32} {x : NN} (h : LRR M S np nv) (hp : p < np) (hx : x.1 = hD c) (hc : rng c 0 200000) : LRR (mkset M p x) (lset S 0 (32 + p) c) np nv := by
  have hn := h.1
  refine LRR_go (p := p) (j := 8) h (Or.inl hp) (Or.inr (by omega)) ?_ (fun i hi => ?_) (fun i hi hne => ⟨fun k' _ _ => rfl, if_neg hne, rfl, rfl⟩) (fun i hi hne => ⟨lset_n (by omega), lset_n (by omega), lset_n (by omega), fun r hr => lset_n (by omega)⟩) (fun i hi hne k' _ _ => rfl) (fun i hi hne => ⟨lset_n (by omega), fun r hr => lset_n (by omega)⟩) (fun _ => ?_) (fun z => absurd z (by have := h.2.1; omega))
  · unfold LRg
    rw [lset_k (by decide)]
    exact h.g
  · unfold LRk
    rw [lset_k (by decide)]
    exact h.k hi
  · obtain ⟨kk, cc, oo, ll, a1, a2, a3, a4, a5, a6, a7, a8, a9, a10⟩ := h.p hp
    obtain ⟨b1, b2, b3, b4, b5, b6, b7, b8, b9, b10⟩ := h.q hp
    refine ⟨⟨kk, cc, oo, ll, a1, a2, a3, a4, a5, a6, a7, a8, a9, by rw [lset_k (by decide)]; exact a10⟩, ?_⟩
    unfold LRq
    rw [lset_k (show (2 : Nat) ≠ 0 by decide), lset_s, lset_n (by omega), lset_n (by omega), lset_n (by omega), lset_n (by omega), lset_n (by omega), lset_n (by omega)]
    refine ⟨b1, b2, b3, b4, b5, b6, ?_, hc, b9, b10⟩
    show (ite (p = p) x (M.2 p) : NN).1 = _
    rw [if_pos rfl]
    exact hx
/-- crack, openness, limit of a piece: m the weight of the digit -/
theorem LRR_fl {M : MS} {S : LwS} {np nv p k m x : Nat} {d : Int32} (h : LRR M S np nv) (hp : p < np) (hk : (k = 11 ∧ m = 4 ∧ x ≤ 2) ∨ (k = 12 ∧ m = 16 ∧ x ≤ 2) ∨ (k = 13 ∧ m = 64 ∧ 1 ≤ x ∧ x ≤ 300)) (hd : d = nI m * (nI x - M.1 k p)) : LRR (mset M k p (nI x)) (lset S 1 p (S 1 p + d)) np nv := by
  have hn := h.1
  have hk2 : 11 ≤ k ∧ k ≤ 13 := by omega
  refine LRR_go (p := p) (j := 8) h (Or.inl hp) (Or.inr (by omega)) ?_ (fun i hi => ?_) (fun i hi hne => ⟨fun k' _ _ => mset_j hne, rfl, ?_, ?_⟩) (fun i hi hne => ⟨lset_n (by omega), lset_n (by omega), lset_n (by omega), fun r hr => lset_n (by omega)⟩) (fun i hi hne k' _ _ => by rw [mset_k (by omega)]) (fun i hi hne => ⟨lset_n (by omega), fun r hr => lset_n (by omega)⟩) (fun _ => ?_) (fun z => absurd z (by have := h.2.1; omega))
  · obtain ⟨g1, g2, g3, g4, g5⟩ := h.g
    unfold LRg
    rw [lset_k (by decide), mset_k (by omega), mset_k (by omega), mset_k (by omega)]
    exact ⟨g1, g2, g3, g4, g5⟩
  · have := h.k hi
    unfold LRk at this ⊢
    rw [lset_k (by decide), mset_k (by omega), mset_k (by omega), mset_k (by omega)]
    exact this
  · rw [mset_k (by omega)]
  · rw [mset_k (by omega)]
  · obtain ⟨kk, cc, oo, ll, a1, a2, a3, a4, a5, a6, a7, a8, a9, a10⟩ := h.p hp
    obtain ⟨b1, b2, b3, b4, b5, b6, b7, b8, b9, b10⟩ := h.q hp
    refine ⟨?_, ?_⟩
    · have key : ∀ (A B : Nat), nI (A + m * B) + nI m * (nI x - nI B) = nI (A + m * x) := fun A B => by
        have e : nI m * (nI x - nI B) = nI (m * x) - nI (m * B) := by
          rw [← nI_mul, ← nI_mul]
          grind
        rw [e, ← nI_add, ← nI_add]
        grind
      rcases hk with ⟨rfl, rfl, hx⟩ | ⟨rfl, rfl, hx⟩ | ⟨rfl, rfl, hx, hx2⟩
      · refine ⟨kk, x, oo, ll, a1, hx, a3, a4, a5, by rw [mset_k (by decide)]; exact a6, mset_s, by rw [mset_k (by decide)]; exact a8, by rw [mset_k (by decide)]; exact a9, ?_⟩
        rw [lset_s, hd, a7, a10, show kk + 4 * cc + 16 * oo + 64 * ll = (kk + 16 * oo + 64 * ll) + 4 * cc by omega, key]
        congr 1
        omega
      · refine ⟨kk, cc, x, ll, a1, a2, hx, a4, a5, by rw [mset_k (by decide)]; exact a6, by rw [mset_k (by decide)]; exact a7, mset_s, by rw [mset_k (by decide)]; exact a9, ?_⟩
        rw [lset_s, hd, a8, a10, show kk + 4 * cc + 16 * oo + 64 * ll = (kk + 4 * cc + 64 * ll) + 16 * oo by omega, key]
        congr 1
        omega
      · refine ⟨kk, cc, oo, x, a1, a2, a3, hx, hx2, by rw [mset_k (by decide)]; exact a6, by rw [mset_k (by decide)]; exact a7, by rw [mset_k (by decide)]; exact a8, mset_s, ?_⟩
        rw [lset_s, hd, a9, a10, key]
    · unfold LRq
      rw [lset_k (show (2 : Nat) ≠ 1 by decide), lset_k (show (0 : Nat) ≠ 1 by decide), mset_k (by omega), mset_k (by omega), mset_k (by omega), mset_k (by omega), mset_k (by omega), mset_k (by omega), mset_k (by omega)]
      exact ⟨b1, b2, b3, b4, b5, b6, b7, b8, b9, b10⟩
