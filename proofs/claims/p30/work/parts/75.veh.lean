/-! ===== a vehicle: unloading, leaving, coming; a minute ===== -/
theorem LRR_veh {M M' : MS} {S S' : LwS} {np nv j : Nat} (h : LRR M S np nv) (hj : j < nv) (mk : ∀ k i, k < 17 ∨ 25 < k → M'.1 k i = M.1 k i) (mi : ∀ k i, i ≠ j → M'.1 k i = M.1 k i) (m2 : M'.2 = M.2) (sk : ∀ k i, k ≠ 3 → k ≠ 4 → S' k i = S k i) (si : ∀ i, i < 8 → i ≠ j → S' 3 i = S 3 i ∧ ∀ r, r ≤ 4 → S' 4 (8 * r + i) = S 4 (8 * r + i)) (hw : LRw M' S' j) (hx : LRx M' S' j) : LRR M' S' np nv := by
  have hn := h.1
  refine LRR_go (p := 8) (j := j) h (Or.inr (by omega)) (Or.inl hj) ?_ (fun i hi => ?_) (fun i hi hne => ⟨fun k' _ _ => mk _ _ (by omega), by rw [m2], mk _ _ (by omega), mk _ _ (by omega)⟩) (fun i hi hne => ⟨sk _ _ (by decide) (by decide), sk _ _ (by decide) (by decide), sk _ _ (by decide) (by decide), fun r hr => sk _ _ (by decide) (by decide)⟩) (fun i hi hne k' _ _ => mi _ _ hne) si (fun z => absurd z (by omega)) (fun _ => ⟨hw, hx⟩)
  · obtain ⟨g1, g2, g3, g4, g5⟩ := h.g
    exact ⟨by rw [sk _ _ (by decide) (by decide), mk _ _ (by omega)]; exact g1, by rw [sk _ _ (by decide) (by decide), mk _ _ (by omega)]; exact g2, by rw [sk _ _ (by decide) (by decide), mk _ _ (by omega)]; exact g3, by rw [sk _ _ (by decide) (by decide)]; exact g4, by rw [sk _ _ (by decide) (by decide)]; exact g5⟩
  · obtain ⟨g1, g2, g3⟩ := h.k hi
    exact ⟨by rw [sk _ _ (by decide) (by decide), mk _ _ (by omega)]; exact g1, by rw [sk _ _ (by decide) (by decide), mk _ _ (by omega)]; exact g2, by rw [sk _ _ (by decide) (by decide), mk _ _ (by omega)]; exact g3⟩
/-- the kilos taken, brought, ordered -/
theorem LRR_k {M : MS} {S : LwS} {np nv k g ix : Nat} {v : Int32} (h : LRR M S np nv) (hg : g < 3) (hk : (k = 26 ∧ ix = g) ∨ (k = 27 ∧ ix = 3 + g) ∨ (k = 28 ∧ ix = 6 + g)) : LRR (mset M k g v) (lset S 5 ix v) np nv := by
  have hn := h.1
  have hk2 : 26 ≤ k ∧ k ≤ 28 := by omega
  refine LRR_go (p := 8) (j := 8) h (Or.inr (by omega)) (Or.inr (by omega)) ?_ (fun i hi => ?_) (fun i hi hne => ⟨fun k' _ _ => by rw [mset_k (by omega)], rfl, by rw [mset_k (by omega)], by rw [mset_k (by omega)]⟩) (fun i hi hne => ⟨lset_n (by omega), lset_n (by omega), lset_n (by omega), fun r hr => lset_n (by omega)⟩) (fun i hi hne k' _ _ => by rw [mset_k (by omega)]) (fun i hi hne => ⟨lset_n (by omega), fun r hr => lset_n (by omega)⟩) (fun z => absurd z (by omega)) (fun z => absurd z (by have := h.2.1; omega))
  · obtain ⟨g1, g2, g3, g4, g5⟩ := h.g
    unfold LRg
    rw [lset_k (by decide), mset_k (by omega), mset_k (by omega), mset_k (by omega)]
    exact ⟨g1, g2, g3, g4, g5⟩
  · obtain ⟨g1, g2, g3⟩ := h.k hi
    unfold LRk
    by_cases c : i = g
    · subst c
      rcases hk with ⟨rfl, rfl⟩ | ⟨rfl, rfl⟩ | ⟨rfl, rfl⟩
      · rw [lset_s, mset_s, lset_n (by omega), lset_n (by omega), mset_k (by decide), mset_k (by decide)]
        exact ⟨rfl, g2, g3⟩
      · rw [lset_s, mset_s, lset_n (by omega), lset_n (by omega), mset_k (by decide), mset_k (by decide)]
        exact ⟨g1, rfl, g3⟩
      · rw [lset_s, mset_s, lset_n (by omega), lset_n (by omega), mset_k (by decide), mset_k (by decide)]
        exact ⟨g1, g2, rfl⟩
    · rw [lset_n (by omega), lset_n (by omega), lset_n (by omega), mset_j c, mset_j c, mset_j c]
      exact ⟨g1, g2, g3⟩
/-- minute, cold, gap -/
theorem LRR_0 {M : MS} {S : LwS} {np nv k : Nat} {v : Int32} (h : LRR M S np nv) (hk : k ≤ 2) : LRR (mset M k 0 v) (lset S 6 k v) np nv := by
  have hn := h.1
  refine LRR_go (p := 8) (j := 8) h (Or.inr (by omega)) (Or.inr (by omega)) ?_ (fun i hi => ?_) (fun i hi hne => ⟨fun k' _ _ => by rw [mset_k (by omega)], rfl, by rw [mset_k (by omega)], by rw [mset_k (by omega)]⟩) (fun i hi hne => ⟨lset_n (by omega), lset_n (by omega), lset_n (by omega), fun r hr => lset_n (by omega)⟩) (fun i hi hne k' _ _ => by rw [mset_k (by omega)]) (fun i hi hne => ⟨lset_n (by omega), fun r hr => lset_n (by omega)⟩) (fun z => absurd z (by omega)) (fun z => absurd z (by have := h.2.1; omega))
  · obtain ⟨g1, g2, g3, g4, g5⟩ := h.g
    unfold LRg
    rcases (show k = 0 ∨ k = 1 ∨ k = 2 by omega) with rfl | rfl | rfl
    · rw [lset_s, mset_s, lset_n (by omega), lset_n (by omega), lset_n (by omega), lset_n (by omega), mset_k (by decide), mset_k (by decide)]
      exact ⟨rfl, g2, g3, g4, g5⟩
    · rw [lset_s, mset_s, lset_n (by omega), lset_n (by omega), lset_n (by omega), lset_n (by omega), mset_k (by decide), mset_k (by decide)]
      exact ⟨g1, rfl, g3, g4, g5⟩
    · rw [lset_s, mset_s, lset_n (by omega), lset_n (by omega), lset_n (by omega), lset_n (by omega), mset_k (by decide), mset_k (by decide)]
      exact ⟨g1, g2, rfl, g4, g5⟩
  · obtain ⟨g1, g2, g3⟩ := h.k hi
    unfold LRk
    rw [lset_k (by decide), mset_k (by omega), mset_k (by omega), mset_k (by omega)]
    exact ⟨g1, g2, g3⟩
/-- the last coming onto a piece -/
theorem LRR_cm {M : MS} {S : LwS} {np nv p b : Nat} {v : Int32} (h : LRR M S np nv) (hp : p < np) (hb : b ≤ 1) : LRR (mset M 15 (2 * p + b) v) (lset S 0 (40 + 8 * b + p) v) np nv := by
  have hn := h.1
  refine LRR_go (p := p) (j := 8) h (Or.inl hp) (Or.inr (by omega)) ?_ (fun i hi => ?_) (fun i hi hne => ⟨fun k' _ _ => by rw [mset_k (by omega)], rfl, mset_n (by omega), mset_n (by omega)⟩) (fun i hi hne => ⟨lset_n (by omega), lset_n (by omega), lset_n (by omega), fun r hr => lset_n (by omega)⟩) (fun i hi hne k' _ _ => by rw [mset_k (by omega)]) (fun i hi hne => ⟨lset_n (by omega), fun r hr => lset_n (by omega)⟩) (fun _ => ?_) (fun z => absurd z (by have := h.2.1; omega))
  · obtain ⟨g1, g2, g3, g4, g5⟩ := h.g
    unfold LRg
    rw [lset_k (by decide), mset_k (by omega), mset_k (by omega), mset_k (by omega)]
    exact ⟨g1, g2, g3, g4, g5⟩
  · obtain ⟨g1, g2, g3⟩ := h.k hi
    unfold LRk
    rw [lset_k (by decide), mset_k (by omega), mset_k (by omega), mset_k (by omega)]
    exact ⟨g1, g2, g3⟩
  · obtain ⟨kk, cc, oo, ll, a1, a2, a3, a4, a5, a6, a7, a8, a9, a10⟩ := h.p hp
    obtain ⟨b1, b2, b3, b4, b5, b6, b7, b8, b9, b10⟩ := h.q hp
    refine ⟨⟨kk, cc, oo, ll, a1, a2, a3, a4, a5, by rw [mset_k (by omega)]; exact a6, by rw [mset_k (by omega)]; exact a7, by rw [mset_k (by omega)]; exact a8, by rw [mset_k (by omega)]; exact a9, by rw [lset_k (by decide)]; exact a10⟩, ?_⟩
    unfold LRq
    rw [lset_k (show (2 : Nat) ≠ 0 by decide), lset_n (show ¬ (0 = 0 ∧ p = 40 + 8 * b + p) by omega), lset_n (show ¬ (0 = 0 ∧ 8 + p = 40 + 8 * b + p) by omega), lset_n (show ¬ (0 = 0 ∧ 16 + p = 40 + 8 * b + p) by omega), lset_n (show ¬ (0 = 0 ∧ 24 + p = 40 + 8 * b + p) by omega), lset_n (show ¬ (0 = 0 ∧ 32 + p = 40 + 8 * b + p) by omega), mset_k (show (5 : Nat) ≠ 15 by decide), mset_k (show (6 : Nat) ≠ 15 by decide), mset_k (show (7 : Nat) ≠ 15 by decide), mset_k (show (8 : Nat) ≠ 15 by decide), mset_k (show (9 : Nat) ≠ 15 by decide), mset_k (show (10 : Nat) ≠ 15 by decide)]
    refine ⟨b1, b2, b3, b4, b5, b6, b7, b8, ?_, ?_⟩
    · by_cases c : b = 0
      · subst c
        rw [show 40 + 8 * 0 + p = 40 + p by omega, lset_s, show 2 * p + 0 = 2 * p by omega, mset_s]
      · rw [lset_n (by omega), mset_n (by omega)]
        exact b9
    · by_cases c : b = 0
      · rw [lset_n (by omega), mset_n (by omega)]
        exact b10
      · have e : b = 1 := by omega
        subst e
        rw [show 40 + 8 * 1 + p = 48 + p by omega, lset_s, mset_s]
/-- unloading -/
theorem LRR_unl {M : MS} {S : LwS} {np nv j : Nat} {ub : Int32} (h : LRR M S np nv) (hj : j < nv) : LRR (M_unloads M (nI j) ub) (L_unloads S (nI j) ub) np nv := by
  have hn := h.1
  have hv := h.2.1
  have ej : (nI j).toNatClampNeg = j := nI_clamp (by omega)
  -- taken off
  have off : ∀ (M1 : MS) (S1 : LwS), LRR M1 S1 np nv → LRR (mset (mset M1 24 j 0) 25 j (-1)) (lset (lset S1 3 j (S1 3 j - S1 3 j / 256 * 256)) 4 (8 + j) 0) np nv := by
    intro M1 S1 h1
    obtain ⟨w, a, y, g, q1, q2, q3, q4, e1, e2, e3, e4, e5, -⟩ := h1.w hj
    obtain ⟨x1, x2, x3, x4, x5⟩ := h1.x hj
    refine LRR_veh h1 hj (fun k i hk => by rw [mset_k (by omega), mset_k (by omega)]) (fun k i hi => by rw [mset_j hi, mset_j hi]) rfl (fun k i a b => by rw [lset_k b, lset_k a]) (fun i hi hne => ⟨by rw [lset_k (by decide), lset_j hne], fun r hr => by rw [lset_n (by omega), lset_k (by decide)]⟩) ⟨w, a, y, 0, q1, q2, q3, by omega, ?_, ?_, ?_, mset_s, ?_, Or.inl ⟨rfl, ?_⟩⟩ ⟨?_, ?_, ?_, ?_, ?_⟩
    · rw [mset_k (by decide), mset_k (by decide)]; exact e1
    · rw [mset_k (by decide), mset_k (by decide)]; exact e2
    · rw [mset_k (by decide), mset_k (by decide)]; exact e3
    · rw [lset_k (by decide), lset_s, e5, r256 (by omega)]
      congr 1
      omega
    · rw [mset_k (by decide), mset_s]
    · rw [lset_n (by omega), lset_k (by decide), mset_k (by decide), mset_k (by decide)]; exact x1
    · rw [lset_s, mset_k (by decide), mset_s]
    · rw [lset_n (by omega), lset_k (by decide), mset_k (by decide), mset_k (by decide)]; exact x3
    · rw [lset_n (by omega), lset_k (by decide), mset_k (by decide), mset_k (by decide)]; exact x4
    · rw [lset_n (by omega), lset_k (by decide), mset_k (by decide), mset_k (by decide)]; exact x5
  obtain ⟨w, a, y, g, q1, q2, q3, q4, e1, e2, e3, e4, e5, hg⟩ := h.w hj
  obtain ⟨x1, x2, x3, x4, x5⟩ := h.x hj
  have hgoods := (h.w hj).goods
  unfold L_unloads
  dsimp only
  rw [ej, hgoods]
  rcases hg with ⟨g0, hl⟩ | ⟨g0, hl⟩
  · rw [M_unl_0 (by omega) (by rw [hl]; decide), e4, g0, if_pos (by decide)]
    exact off M S h
  · obtain ⟨g', rfl⟩ : ∃ g', g = g' + 1 := ⟨g - 1, by omega⟩
    have eg : M.1 25 j = nI g' := by rw [e4, nI_pred]
    have hl2 : ¬ M.1 24 j ≤ 0 := by
      rw [Int32.le_iff_toInt_le, Int32.toInt_zero]
      omega
    rw [eg, if_neg (nI_pos (by omega)), x2]
    by_cases hu : ub = 0
    · rw [M_unl_n (by omega) hl2 eg (by omega) hu, if_pos hu, if_pos hu, nI_clamp (by omega), Int32.add_zero]
      have h1 := LRR_k (k := 27) (ix := 3 + g') (v := M.1 27 g') h (show g' < 3 by omega) (Or.inr (Or.inl ⟨rfl, rfl⟩))
      rw [lmset_id] at h1 ⊢
      refine off _ _ ?_
      rw [(h.k (show g' < 3 by omega)).1, ← Int32.sub_eq_add_neg]
      exact LRR_k h (by omega) (Or.inl ⟨rfl, rfl⟩)
    · rw [M_unl_y (by omega) hl2 eg (by omega) hu, if_neg hu, if_neg hu, show (3 : Int32) = nI 3 from rfl, nI_add, nI_clamp (by omega), Int32.sub_zero]
      refine off _ _ ?_
      rw [show mset (mset M 27 g' (M.1 27 g' + M.1 24 j)) 26 g' (M.1 26 g') = mset M 27 g' (M.1 27 g' + M.1 24 j) by
        have e := lmset_id (M := mset M 27 g' (M.1 27 g' + M.1 24 j)) (k := 26) (i := g')
        rw [mset_k (by decide)] at e
        exact e]
      rw [(h.k (show g' < 3 by omega)).2.1]
      exact LRR_k h (by omega) (Or.inr (Or.inl ⟨rfl, rfl⟩))
