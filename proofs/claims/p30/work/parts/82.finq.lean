/-! ===== what a call of does comes to: a new piece, a new vehicle ===== -/
theorem RXA.fp {Z : XZ} {S : XS} {M : MS} {t p : Nat} (h : RXA Z S M t) (h1 : Z.N 0 ≤ p) (h2 : p < 10) : M.1 7 p = 0 ∧ M.1 8 p = 0 ∧ M.1 9 p = 0 ∧ M.1 10 p = 0 ∧ M.1 11 p = 0 ∧ M.1 12 p = 0 ∧ (M.2 p).1 = 0 := h.1.2.2.2.2.2.2.2.2.2.2.2.2.2 p h1 h2
theorem RXA.fv {Z : XZ} {S : XS} {M : MS} {t j : Nat} (h : RXA Z S M t) (h1 : Z.N 1 ≤ j) (h2 : j < 16) : M.1 20 j = 0 ∧ M.1 21 j = 0 ∧ M.1 22 j = 0 ∧ M.1 23 j = 0 ∧ M.1 24 j = 0 := h.1.2.2.2.2.2.2.2.2.2.2.2.2.1 j h1 h2
theorem LRR_piece {M : MS} {L : LwS} {np nv k : Nat} {far deep : Int32} (h : LRR M L np nv) (h8 : np < 8) (hk : k ≤ 2) (hf : M.1 7 np = 0 ∧ M.1 8 np = 0 ∧ M.1 9 np = 0 ∧ M.1 10 np = 0 ∧ M.1 11 np = 0 ∧ M.1 12 np = 0 ∧ (M.2 np).1 = 0) : LRR (mset (mset (mset (mset (mset (mset (mset M 4 np (nI k)) 5 np far) 6 np deep) 13 np 100) 15 (2 * np) (-1000000)) 15 (2 * np + 1) (-1000000)) 3 0 (nI (np + 1))) (lset (lset (lset (lset (lset (lset L 1 np (nI k + 6400)) 2 np far) 2 (8 + np) deep) 0 (40 + np) (-1000000)) 0 (48 + np) (-1000000)) 6 3 (nI np + 1)) (np + 1) nv := by
  obtain ⟨hn, hv, ⟨g1, g2, g3, g4, g5⟩, hp, hj, hg, f1, f2⟩ := h
  obtain ⟨M', eM⟩ : ∃ z : MS, z = mset (mset (mset (mset (mset (mset (mset M 4 np (nI k)) 5 np far) 6 np deep) 13 np 100) 15 (2 * np) (-1000000)) 15 (2 * np + 1) (-1000000)) 3 0 (nI (np + 1)) := ⟨_, rfl⟩
  obtain ⟨L', eL⟩ : ∃ z : LwS, z = lset (lset (lset (lset (lset (lset L 1 np (nI k + 6400)) 2 np far) 2 (8 + np) deep) 0 (40 + np) (-1000000)) 0 (48 + np) (-1000000)) 6 3 (nI np + 1) := ⟨_, rfl⟩
  rw [← eM, ← eL]
  have mk : ∀ q, q ≠ 3 → q ≠ 4 → q ≠ 5 → q ≠ 6 → q ≠ 13 → q ≠ 15 → M'.1 q = M.1 q := fun q a b c d e f => by rw [eM, mset_k a, mset_k f, mset_k f, mset_k e, mset_k d, mset_k c, mset_k b]
  have mj : ∀ q i, i ≠ np → q ≠ 3 → q ≠ 15 → M'.1 q i = M.1 q i := fun q i hi a b => by rw [eM, mset_k a, mset_k b, mset_k b, mset_j hi, mset_j hi, mset_j hi, mset_j hi]
  have mc : ∀ i, i ≠ 2 * np → i ≠ 2 * np + 1 → M'.1 15 i = M.1 15 i := fun i a b => by rw [eM, mset_k (by decide), mset_j b, mset_j a, mset_k (by decide), mset_k (by decide), mset_k (by decide), mset_k (by decide)]
  have lk : ∀ q, q ≠ 0 → q ≠ 1 → q ≠ 2 → q ≠ 6 → L' q = L q := fun q a b c d => by rw [eL, lset_k d, lset_k a, lset_k a, lset_k c, lset_k c, lset_k b]
  have l1 : ∀ i, i ≠ np → L' 1 i = L 1 i := fun i hi => by rw [eL, lset_k (by decide), lset_k (by decide), lset_k (by decide), lset_k (by decide), lset_k (by decide), lset_j hi]
  have l2 : ∀ i, i ≠ np → i ≠ 8 + np → L' 2 i = L 2 i := fun i a b => by rw [eL, lset_k (by decide), lset_k (by decide), lset_k (by decide), lset_j b, lset_j a, lset_k (by decide)]
  have l0 : ∀ i, i ≠ 40 + np → i ≠ 48 + np → L' 0 i = L 0 i := fun i a b => by rw [eL, lset_k (by decide), lset_j b, lset_j a, lset_k (by decide), lset_k (by decide), lset_k (by decide)]
  have l6 : ∀ i, i ≠ 3 → L' 6 i = L 6 i := fun i a => by rw [eL, lset_j a, lset_k (by decide), lset_k (by decide), lset_k (by decide), lset_k (by decide), lset_k (by decide)]
  have n3 : L' 6 3 = nI np + 1 := by rw [eL, lset_s]
  refine ⟨by omega, hv, ⟨?_, ?_, ?_, ?_, ?_⟩, fun i hi => ?_, fun i hi => ?_, fun i hi => ?_, fun i hi h2 => ?_, fun i hi h2 => ?_⟩
  · rw [l6 0 (by decide), mk 0 (by decide) (by decide) (by decide) (by decide) (by decide) (by decide)]; exact g1
  · rw [l6 1 (by decide), mk 1 (by decide) (by decide) (by decide) (by decide) (by decide) (by decide)]; exact g2
  · rw [l6 2 (by decide), mk 2 (by decide) (by decide) (by decide) (by decide) (by decide) (by decide)]; exact g3
  · rw [n3, nI_1]
  · rw [l6 4 (by decide)]; exact g5
  · by_cases c : i = np
    · subst c
      obtain ⟨z1, z2, z3, z4, z5, z6, z7⟩ := hf
      obtain ⟨y1, y2, y3, y4, y5⟩ := f1 i (Nat.le_refl _) h8
      refine ⟨⟨k, 0, 0, 100, hk, by omega, by omega, by omega, by omega, ?_, ?_, ?_, ?_, ?_⟩, ?_, ?_, ?_, ?_, ?_, ?_, ?_, ?_, ?_, ?_⟩
      · rw [eM, mset_k (by decide), mset_k (by decide), mset_k (by decide), mset_k (by decide), mset_k (by decide), mset_k (by decide), mset_s]
      · rw [mk 11 (by decide) (by decide) (by decide) (by decide) (by decide) (by decide)]; exact z5
      · rw [mk 12 (by decide) (by decide) (by decide) (by decide) (by decide) (by decide)]; exact z6
      · rw [eM, mset_k (by decide), mset_k (by decide), mset_k (by decide), mset_s]; rfl
      · rw [eL, lset_k (by decide), lset_k (by decide), lset_k (by decide), lset_k (by decide), lset_k (by decide), lset_s]
        show nI k + nI 6400 = _
        rw [nI_add]
      · rw [eL, eM, lset_k (by decide), lset_k (by decide), lset_k (by decide), lset_j (by omega), lset_s, mset_k (by decide), mset_k (by decide), mset_k (by decide), mset_k (by decide), mset_k (by decide), mset_s]
      · rw [eL, eM, lset_k (by decide), lset_k (by decide), lset_k (by decide), lset_s, mset_k (by decide), mset_k (by decide), mset_k (by decide), mset_k (by decide), mset_s]
      · rw [l0 i (by omega) (by omega), mk 7 (by decide) (by decide) (by decide) (by decide) (by decide) (by decide), z1, y1]
      · rw [l0 (8 + i) (by omega) (by omega), mk 8 (by decide) (by decide) (by decide) (by decide) (by decide) (by decide), z2, y2]
      · rw [l0 (16 + i) (by omega) (by omega), mk 9 (by decide) (by decide) (by decide) (by decide) (by decide) (by decide), z3, y3]
      · rw [l0 (24 + i) (by omega) (by omega), mk 10 (by decide) (by decide) (by decide) (by decide) (by decide) (by decide), z4, y4]
      · rw [l0 (32 + i) (by omega) (by omega), y5, hD_0, show M'.2 = M.2 by rw [eM]; rfl, z7]; rfl
      · rw [l0 (32 + i) (by omega) (by omega), y5]; unfold rng; decide
      · rw [eL, eM, lset_k (by decide), lset_j (by omega), lset_s, mset_k (by decide), mset_j (by omega), mset_s]
      · rw [eL, eM, lset_k (by decide), lset_s, mset_k (by decide), mset_s]
    · obtain ⟨⟨kk, cc, oo, ll, a1, a2, a3, a4, a5, a6, a7, a8, a9, a10⟩, b1, b2, b3, b4, b5, b6, b7, b8, b9, b10⟩ := hp i (by omega)
      refine ⟨⟨kk, cc, oo, ll, a1, a2, a3, a4, a5, ?_, ?_, ?_, ?_, ?_⟩, ?_, ?_, ?_, ?_, ?_, ?_, ?_, ?_, ?_, ?_⟩
      · rw [mj 4 i c (by decide) (by decide)]; exact a6
      · rw [mj 11 i c (by decide) (by decide)]; exact a7
      · rw [mj 12 i c (by decide) (by decide)]; exact a8
      · rw [mj 13 i c (by decide) (by decide)]; exact a9
      · rw [l1 i c]; exact a10
      · rw [l2 i c (by omega), mj 5 i c (by decide) (by decide)]; exact b1
      · rw [l2 (8 + i) (by omega) (by omega), mj 6 i c (by decide) (by decide)]; exact b2
      · rw [l0 i (by omega) (by omega), mj 7 i c (by decide) (by decide)]; exact b3
      · rw [l0 (8 + i) (by omega) (by omega), mj 8 i c (by decide) (by decide)]; exact b4
      · rw [l0 (16 + i) (by omega) (by omega), mj 9 i c (by decide) (by decide)]; exact b5
      · rw [l0 (24 + i) (by omega) (by omega), mj 10 i c (by decide) (by decide)]; exact b6
      · rw [l0 (32 + i) (by omega) (by omega), show M'.2 = M.2 by rw [eM]; rfl]; exact b7
      · rw [l0 (32 + i) (by omega) (by omega)]; exact b8
      · rw [l0 (40 + i) (by omega) (by omega), mc (2 * i) (by omega) (by omega)]; exact b9
      · rw [l0 (48 + i) (by omega) (by omega), mc (2 * i + 1) (by omega) (by omega)]; exact b10
  · obtain ⟨⟨w, a, y, g, a1, a2, a3, a4, a5, a6, a7, a8, a9, a10⟩, b1, b2, b3, b4, b5⟩ := hj i hi
    unfold LRw LRx
    rw [lk 3 (by decide) (by decide) (by decide) (by decide), lk 4 (by decide) (by decide) (by decide) (by decide), mk 20 (by decide) (by decide) (by decide) (by decide) (by decide) (by decide), mk 21 (by decide) (by decide) (by decide) (by decide) (by decide) (by decide), mk 22 (by decide) (by decide) (by decide) (by decide) (by decide) (by decide), mk 25 (by decide) (by decide) (by decide) (by decide) (by decide) (by decide), mk 24 (by decide) (by decide) (by decide) (by decide) (by decide) (by decide), mk 17 (by decide) (by decide) (by decide) (by decide) (by decide) (by decide), mk 18 (by decide) (by decide) (by decide) (by decide) (by decide) (by decide), mk 19 (by decide) (by decide) (by decide) (by decide) (by decide) (by decide), mk 23 (by decide) (by decide) (by decide) (by decide) (by decide) (by decide)]
    exact ⟨⟨w, a, y, g, a1, a2, a3, a4, a5, a6, a7, a8, a9, a10⟩, b1, b2, b3, b4, b5⟩
  · have := hg i hi
    unfold LRk at this ⊢
    rw [lk 5 (by decide) (by decide) (by decide) (by decide), mk 26 (by decide) (by decide) (by decide) (by decide) (by decide) (by decide), mk 27 (by decide) (by decide) (by decide) (by decide) (by decide) (by decide), mk 28 (by decide) (by decide) (by decide) (by decide) (by decide) (by decide)]
    exact this
  · obtain ⟨y1, y2, y3, y4, y5⟩ := f1 i (by omega) h2
    exact ⟨by rw [l0 i (by omega) (by omega)]; exact y1, by rw [l0 (8 + i) (by omega) (by omega)]; exact y2, by rw [l0 (16 + i) (by omega) (by omega)]; exact y3, by rw [l0 (24 + i) (by omega) (by omega)]; exact y4, by rw [l0 (32 + i) (by omega) (by omega)]; exact y5⟩
  · have := f2 i hi h2
    unfold LRh at this ⊢
    rw [lk 3 (by decide) (by decide) (by decide) (by decide), lk 4 (by decide) (by decide) (by decide) (by decide)]
    exact this
theorem LRR_vehicle {M : MS} {L : LwS} {np nv : Nat} {em ca fa : Int32} (h : LRR M L np nv) (h8 : nv < 8) (hf : M.1 20 nv = 0 ∧ M.1 21 nv = 0 ∧ M.1 22 nv = 0 ∧ M.1 23 nv = 0 ∧ M.1 24 nv = 0) : LRR (mset (mset (mset (mset (mset M 17 nv em) 18 nv ca) 19 nv fa) 25 nv (-1)) 16 0 (nI (nv + 1))) (lset (lset (lset (lset L 4 nv em) 4 (16 + nv) ca) 4 (24 + nv) fa) 6 4 (nI nv + 1)) np (nv + 1) := by
  obtain ⟨hn, hv, ⟨g1, g2, g3, g4, g5⟩, hp, hj, hg, f1, f2⟩ := h
  obtain ⟨M', eM⟩ : ∃ z : MS, z = mset (mset (mset (mset (mset M 17 nv em) 18 nv ca) 19 nv fa) 25 nv (-1)) 16 0 (nI (nv + 1)) := ⟨_, rfl⟩
  obtain ⟨L', eL⟩ : ∃ z : LwS, z = lset (lset (lset (lset L 4 nv em) 4 (16 + nv) ca) 4 (24 + nv) fa) 6 4 (nI nv + 1) := ⟨_, rfl⟩
  rw [← eM, ← eL]
  have mk : ∀ q, q ≠ 16 → q ≠ 17 → q ≠ 18 → q ≠ 19 → q ≠ 25 → M'.1 q = M.1 q := fun q a b c d e => by rw [eM, mset_k a, mset_k e, mset_k d, mset_k c, mset_k b]
  have mj : ∀ q i, i ≠ nv → q ≠ 16 → M'.1 q i = M.1 q i := fun q i hi a => by rw [eM, mset_k a, mset_j hi, mset_j hi, mset_j hi, mset_j hi]
  have lk : ∀ q, q ≠ 4 → q ≠ 6 → L' q = L q := fun q a b => by rw [eL, lset_k b, lset_k a, lset_k a, lset_k a]
  have l4 : ∀ i, i ≠ nv → i ≠ 16 + nv → i ≠ 24 + nv → L' 4 i = L 4 i := fun i a b c => by rw [eL, lset_k (by decide), lset_j c, lset_j b, lset_j a]
  have l6 : ∀ i, i ≠ 4 → L' 6 i = L 6 i := fun i a => by rw [eL, lset_j a, lset_k (by decide), lset_k (by decide), lset_k (by decide)]
  have m2 : M'.2 = M.2 := by rw [eM]; rfl
  have n4 : L' 6 4 = nI nv + 1 := by rw [eL, lset_s]
  refine ⟨hn, by omega, ⟨?_, ?_, ?_, ?_, ?_⟩, fun i hi => ?_, fun i hi => ?_, fun i hi => ?_, fun i hi h2 => ?_, fun i hi h2 => ?_⟩
  · rw [l6 0 (by decide), mk 0 (by decide) (by decide) (by decide) (by decide) (by decide)]; exact g1
  · rw [l6 1 (by decide), mk 1 (by decide) (by decide) (by decide) (by decide) (by decide)]; exact g2
  · rw [l6 2 (by decide), mk 2 (by decide) (by decide) (by decide) (by decide) (by decide)]; exact g3
  · rw [l6 3 (by decide)]; exact g4
  · rw [n4, nI_1]
  · have := hp i hi
    unfold LRp LRq at this ⊢
    rw [lk 0 (by decide) (by decide), lk 1 (by decide) (by decide), lk 2 (by decide) (by decide), m2, mk 4 (by decide) (by decide) (by decide) (by decide) (by decide), mk 5 (by decide) (by decide) (by decide) (by decide) (by decide), mk 6 (by decide) (by decide) (by decide) (by decide) (by decide), mk 7 (by decide) (by decide) (by decide) (by decide) (by decide), mk 8 (by decide) (by decide) (by decide) (by decide) (by decide), mk 9 (by decide) (by decide) (by decide) (by decide) (by decide), mk 10 (by decide) (by decide) (by decide) (by decide) (by decide), mk 11 (by decide) (by decide) (by decide) (by decide) (by decide), mk 12 (by decide) (by decide) (by decide) (by decide) (by decide), mk 13 (by decide) (by decide) (by decide) (by decide) (by decide), mk 15 (by decide) (by decide) (by decide) (by decide) (by decide)]
    exact this
  · by_cases c : i = nv
    · subst c
      obtain ⟨z1, z2, z3, z4, z5⟩ := hf
      obtain ⟨y1, y2, y3⟩ := f2 i (Nat.le_refl _) h8
      refine ⟨⟨0, 0, 0, 0, by omega, by omega, by omega, by omega, ?_, ?_, ?_, ?_, ?_, Or.inl ⟨rfl, ?_⟩⟩, ?_, ?_, ?_, ?_, ?_⟩
      · rw [mk 20 (by decide) (by decide) (by decide) (by decide) (by decide)]; exact z1
      · rw [mk 21 (by decide) (by decide) (by decide) (by decide) (by decide)]; exact z2
      · rw [mk 22 (by decide) (by decide) (by decide) (by decide) (by decide)]; exact z3
      · rw [eM, mset_k (by decide), mset_s]; decide
      · rw [lk 3 (by decide) (by decide)]; exact y1
      · rw [mk 24 (by decide) (by decide) (by decide) (by decide) (by decide)]; exact z5
      · rw [eL, eM, lset_k (by decide), lset_j (by omega), lset_j (by omega), lset_s, mset_k (by decide), mset_k (by decide), mset_k (by decide), mset_k (by decide), mset_s]
      · rw [l4 (8 + i) (by omega) (by omega) (by omega), mk 24 (by decide) (by decide) (by decide) (by decide) (by decide), z5, y2]
      · rw [eL, eM, lset_k (by decide), lset_j (by omega), lset_s, mset_k (by decide), mset_k (by decide), mset_k (by decide), mset_s]
      · rw [eL, eM, lset_k (by decide), lset_s, mset_k (by decide), mset_k (by decide), mset_s]
      · rw [l4 (32 + i) (by omega) (by omega) (by omega), mk 23 (by decide) (by decide) (by decide) (by decide) (by decide), z4, y3]
    · obtain ⟨⟨w, a, y, g, a1, a2, a3, a4, a5, a6, a7, a8, a9, a10⟩, b1, b2, b3, b4, b5⟩ := hj i (by omega)
      refine ⟨⟨w, a, y, g, a1, a2, a3, a4, ?_, ?_, ?_, ?_, ?_, ?_⟩, ?_, ?_, ?_, ?_, ?_⟩
      · rw [mj 20 i c (by decide)]; exact a5
      · rw [mj 21 i c (by decide)]; exact a6
      · rw [mj 22 i c (by decide)]; exact a7
      · rw [mj 25 i c (by decide)]; exact a8
      · rw [lk 3 (by decide) (by decide)]; exact a9
      · rw [mj 24 i c (by decide)]; exact a10
      · rw [l4 i c (by omega) (by omega), mj 17 i c (by decide)]; exact b1
      · rw [l4 (8 + i) (by omega) (by omega) (by omega), mj 24 i c (by decide)]; exact b2
      · rw [l4 (16 + i) (by omega) (by omega) (by omega), mj 18 i c (by decide)]; exact b3
      · rw [l4 (24 + i) (by omega) (by omega) (by omega), mj 19 i c (by decide)]; exact b4
      · rw [l4 (32 + i) (by omega) (by omega) (by omega), mj 23 i c (by decide)]; exact b5
  · have := hg i hi
    unfold LRk at this ⊢
    rw [lk 5 (by decide) (by decide), mk 26 (by decide) (by decide) (by decide) (by decide) (by decide), mk 27 (by decide) (by decide) (by decide) (by decide) (by decide), mk 28 (by decide) (by decide) (by decide) (by decide) (by decide)]
    exact this
  · have := f1 i hi h2
    unfold LRf at this ⊢
    rw [lk 0 (by decide) (by decide)]
    exact this
  · obtain ⟨y1, y2, y3⟩ := f2 i (by omega) h2
    exact ⟨by rw [lk 3 (by decide) (by decide)]; exact y1, by rw [l4 (8 + i) (by omega) (by omega) (by omega)]; exact y2, by rw [l4 (32 + i) (by omega) (by omega) (by omega)]; exact y3⟩
section
variable {T : Nat → ClassId} {z : Nat} {Z : XZ} {S : XS} {M : MS} {L : LwS} {t : Nat} {v : Option Value} {w1 : WD}
/-- a new piece or vehicle, made or refused -/
theorem do_n {M' : MS} {th : Option String} {x y : Int32} {a b : String} {W : Nat → Nat → WD} {ok : Nat → Nat → Prop} {bad : Prop} (hSA : SA th x y M' (cdL a b) (∀ h1 h2 : Nat, ok h1 h2) bad) (hp : poE cvi (fun v w' => th = none ∧ v = some (.int x) ∧ ∃ h1 h2 : Nat, w' = W h1 h2) (px th (xW T z Z S)) v w1) : (M'.1 29 0 = 0 ∧ v = some (.int y) ∧ (∃ h1 h2, ok h1 h2 ∧ w1 = W h1 h2)) ∨ (∃ E, M'.1 29 0 = cdL a b E ∧ v = some (.int (cdD E)) ∧ bad ∧ w1 = xW T z Z S) := by
  rcases hSA with ⟨a1, a2, a3, a4⟩ | ⟨E, a1, a2, a3⟩
  · rcases hp with ⟨u, ⟨b1, b2, h1, h2, b3⟩, b4⟩ | ⟨E, ⟨b1, b2⟩, b3⟩
    · cases b2
      exact Or.inl ⟨a2, by rw [b4, ← a3]; rfl, h1, h2, a4 h1 h2, b3⟩
    · rw [a1] at b1
      cases b1
  · rcases hp with ⟨u, ⟨b1, b2, b3⟩, b4⟩ | ⟨E', ⟨b1, b2⟩, b3⟩
    · rw [a1] at b1
      cases b1
    · rw [a1] at b1
      cases b1
      exact Or.inr ⟨E, a2, b3, a3, b2⟩
theorem fi0a {k far deep : Int32} (hR : RR Z S M L t) (ht : t < 512) (hx : ¬ ((0 ≤ k.toInt ∧ k.toInt ≤ 2) ∧ (1 ≤ far.toInt ∧ far.toInt ≤ 20000) ∧ (1 ≤ deep.toInt ∧ deep.toInt ≤ 999))) (h : poE cvi (fun v w' => (X_piece Z S k far deep) = none ∧ v = some (.int (nI (Z.N 0))) ∧ ∃ h1 h2 : Nat, w' = xW T z (zA Z 0 h1 h2) (xset (X_iPiece (zO Z 1 h1) (xz S 1 (Z.O 1)) (Z.O 1) k far deep) 6 0 0 ((X_iPiece (zO Z 1 h1) (xz S 1 (Z.O 1)) (Z.O 1) k far deep).1 6 0 0 + 1))) (px (X_piece Z S k far deep) (xW T z Z S)) v w1) : FIN T z Z t L (-20000000) v w1 := by
  have h1 := do_n (st_piece hR.1 ht k far deep) h
  unfold M_piece at h1
  rw [if_neg (fun z => hx ⟨iI_0_2.mp z.1, iI_1_20000.mp z.2.1, iI_1_999.mp z.2.2⟩)] at h1
  rcases h1 with ⟨h1, -⟩ | ⟨E, h1, h2, h3, h4⟩
  · rw [mset_s] at h1
    exact absurd h1 (by decide)
  · rw [mset_s] at h1
    rw [cdL_i1 h1.symm] at h2
    exact ⟨h2, Z, S, _, ⟨h3, LRR_29 hR.l, OB_29 hR.2.2⟩, rfl, h4⟩
theorem fi0c {k far deep : Int32} (hR : RR Z S M L t) (ht : t < 512) (hx : (0 ≤ k.toInt ∧ k.toInt ≤ 2) ∧ (1 ≤ far.toInt ∧ far.toInt ≤ 20000) ∧ (1 ≤ deep.toInt ∧ deep.toInt ≤ 999)) (hv : 0 < Z.N 1) (h : poE cvi (fun v w' => (X_piece Z S k far deep) = none ∧ v = some (.int (nI (Z.N 0))) ∧ ∃ h1 h2 : Nat, w' = xW T z (zA Z 0 h1 h2) (xset (X_iPiece (zO Z 1 h1) (xz S 1 (Z.O 1)) (Z.O 1) k far deep) 6 0 0 ((X_iPiece (zO Z 1 h1) (xz S 1 (Z.O 1)) (Z.O 1) k far deep).1 6 0 0 + 1))) (px (X_piece Z S k far deep) (xW T z Z S)) v w1) : FIN T z Z t L (-10000000) v w1 := by
  have hn := hR.np
  have hnv := hR.nv
  have h1 := do_n (st_piece hR.1 ht k far deep) h
  unfold M_piece at h1
  rw [if_pos ⟨iI_0_2.mpr hx.1, iI_1_20000.mpr hx.2.1, iI_1_999.mpr hx.2.2⟩, if_neg (by rw [hR.n.1]; exact fun z => by have := (nI_eq (b := 10) (by omega) (by decide)).mp z; omega), if_neg (by rw [hR.n.2.2.1]; exact nI_nle hv (by omega))] at h1
  rcases h1 with ⟨h1, -⟩ | ⟨E, h1, h2, h3, h4⟩
  · rw [mset_s] at h1
    exact absurd h1 (by decide)
  · rw [mset_s] at h1
    rw [cdL_i2 h1.symm] at h2
    exact ⟨h2, Z, S, _, ⟨h3, LRR_29 hR.l, OB_29 hR.2.2⟩, rfl, h4⟩
theorem fi0b {k : Nat} {far deep : Int32} (hR : RR Z S M L t) (ht : t < 512) (h8 : Z.N 0 < 8) (hk : k ≤ 2) (hx : (1 ≤ far.toInt ∧ far.toInt ≤ 20000) ∧ (1 ≤ deep.toInt ∧ deep.toInt ≤ 999)) (hv : Z.N 1 = 0) (h : poE cvi (fun v w' => (X_piece Z S (nI k) far deep) = none ∧ v = some (.int (nI (Z.N 0))) ∧ ∃ h1 h2 : Nat, w' = xW T z (zA Z 0 h1 h2) (xset (X_iPiece (zO Z 1 h1) (xz S 1 (Z.O 1)) (Z.O 1) (nI k) far deep) 6 0 0 ((X_iPiece (zO Z 1 h1) (xz S 1 (Z.O 1)) (Z.O 1) (nI k) far deep).1 6 0 0 + 1))) (px (X_piece Z S (nI k) far deep) (xW T z Z S)) v w1) : FIN T z Z t (lset (lset (lset (lset (lset (lset L 1 (Z.N 0) (nI k + 6400)) 2 (Z.N 0) far) 2 (8 + Z.N 0) deep) 0 (40 + Z.N 0) (-1000000)) 0 (48 + Z.N 0) (-1000000)) 6 3 (nI (Z.N 0) + 1)) (nI (Z.N 0)) v w1 := by
  have hn := hR.np
  have hnv := hR.nv
  have e3 : M.1 3 0 = nI (Z.N 0) := hR.n.1
  have h1 := do_n (st_piece hR.1 ht (nI k) far deep) h
  unfold M_piece at h1
  rw [if_pos ⟨iI_0_2.mpr (by rw [nI_toInt (by omega)]; omega), iI_1_20000.mpr hx.1, iI_1_999.mpr hx.2⟩, if_neg (by rw [hR.n.1]; exact fun z => by have := (nI_eq (b := 10) (by omega) (by decide)).mp z; omega), if_pos (by rw [hR.n.2.2.1, hv]; decide)] at h1
  dsimp only at h1
  simp only [mset_k (show (3 : Nat) ≠ 29 by decide), mset_k (show (3 : Nat) ≠ 4 by decide), mset_k (show (3 : Nat) ≠ 5 by decide), mset_k (show (3 : Nat) ≠ 6 by decide), mset_k (show (3 : Nat) ≠ 13 by decide), mset_k (show (3 : Nat) ≠ 15 by decide), e3, nI_two, nI_1, nI_clamp (show Z.N 0 < 2 ^ 31 by omega), nI_clamp (show 2 * Z.N 0 < 2 ^ 31 by omega), nI_clamp (show 2 * Z.N 0 + 1 < 2 ^ 31 by omega), mset_s, nI_pred] at h1
  rcases h1 with ⟨h1, h2, a, b, h3, h4⟩ | ⟨E, h1, h2, h3, h4⟩
  · refine ⟨h2, _, _, _, ⟨h3, ?_, OB_t hR.2.2 (by rw [mset_k (by decide), mset_k (by decide), mset_k (by decide), mset_k (by decide), mset_k (by decide), mset_k (by decide), mset_k (by decide), mset_k (by decide)]) (by rw [mset_k (by decide), mset_k (by decide), mset_k (by decide), mset_k (by decide), mset_k (by decide), mset_k (by decide), mset_k (by decide), mset_k (by decide)]) (fun z => KI_t z (fun k a b => (by rw [mset_k (by omega), mset_k (by omega), mset_k (by omega), mset_k (by omega), mset_k (by omega), mset_k (by omega), mset_k (by omega), mset_k (by omega)])))⟩, zA_A (by decide) (by decide), h4⟩
    rw [zA_N, zA_N, if_pos rfl, if_neg (by decide)]
    have hf := hR.1.fp (p := Z.N 0) (Nat.le_refl _) (by omega)
    refine LRR_piece (LRR_29 hR.l) h8 hk ?_
    rw [mset_k (by decide), mset_k (by decide), mset_k (by decide), mset_k (by decide), mset_k (by decide), mset_k (by decide)]
    exact hf
  · have e29 : ∀ (A : MS), (mset (mset (mset (mset (mset (mset (mset A 4 (Z.N 0) (nI k)) 5 (Z.N 0) far) 6 (Z.N 0) deep) 13 (Z.N 0) 100) 15 (2 * Z.N 0) (-1000000)) 15 (2 * Z.N 0 + 1) (-1000000)) 3 0 (nI (Z.N 0 + 1))).1 29 0 = A.1 29 0 := fun A => by rw [mset_k (by decide), mset_k (by decide), mset_k (by decide), mset_k (by decide), mset_k (by decide), mset_k (by decide), mset_k (by decide)]
    rw [e29, mset_s] at h1
    exact absurd h1.symm cdL_no
theorem fv0a {em ca fa : Int32} (hR : RR Z S M L t) (ht : t < 512) (hx : ¬ ((500 ≤ em.toInt ∧ em.toInt ≤ 40000) ∧ (0 ≤ ca.toInt ∧ ca.toInt ≤ 60000) ∧ (1 ≤ fa.toInt ∧ fa.toInt ≤ 300))) (h : poE cvi (fun v w' => (X_vehicle Z S em ca fa) = none ∧ v = some (.int (nI (Z.N 1))) ∧ ∃ h1 h2 : Nat, w' = xW T z (zA Z 1 h1 h2) (xset (X_iVehicle (zO Z 2 h1) (xz S 2 (Z.O 2)) (Z.O 2) em ca fa) 6 1 0 ((X_iVehicle (zO Z 2 h1) (xz S 2 (Z.O 2)) (Z.O 2) em ca fa).1 6 1 0 + 1))) (px (X_vehicle Z S em ca fa) (xW T z Z S)) v w1) : FIN T z Z t L (-20000000) v w1 := by
  have h1 := do_n (st_vehicle hR.1 ht em ca fa) h
  unfold M_vehicle at h1
  rw [if_neg (fun z => hx ⟨iI_500_40000.mp z.1, iI_0_60000.mp z.2.1, iI_1_300.mp z.2.2⟩)] at h1
  rcases h1 with ⟨h1, -⟩ | ⟨E, h1, h2, h3, h4⟩
  · rw [mset_s] at h1
    exact absurd h1 (by decide)
  · rw [mset_s] at h1
    rw [cdL_i1 h1.symm] at h2
    exact ⟨h2, Z, S, _, ⟨h3, LRR_29 hR.l, OB_29 hR.2.2⟩, rfl, h4⟩
theorem fv0c {em ca fa : Int32} (hR : RR Z S M L t) (ht : t < 512) (hx : (500 ≤ em.toInt ∧ em.toInt ≤ 40000) ∧ (0 ≤ ca.toInt ∧ ca.toInt ≤ 60000) ∧ (1 ≤ fa.toInt ∧ fa.toInt ≤ 300)) (hv : Z.N 0 = 0) (h : poE cvi (fun v w' => (X_vehicle Z S em ca fa) = none ∧ v = some (.int (nI (Z.N 1))) ∧ ∃ h1 h2 : Nat, w' = xW T z (zA Z 1 h1 h2) (xset (X_iVehicle (zO Z 2 h1) (xz S 2 (Z.O 2)) (Z.O 2) em ca fa) 6 1 0 ((X_iVehicle (zO Z 2 h1) (xz S 2 (Z.O 2)) (Z.O 2) em ca fa).1 6 1 0 + 1))) (px (X_vehicle Z S em ca fa) (xW T z Z S)) v w1) : FIN T z Z t L (-10000000) v w1 := by
  have hn := hR.np
  have hnv := hR.nv
  have h1 := do_n (st_vehicle hR.1 ht em ca fa) h
  unfold M_vehicle at h1
  rw [if_pos ⟨iI_500_40000.mpr hx.1, iI_0_60000.mpr hx.2.1, iI_1_300.mpr hx.2.2⟩, if_neg (by rw [hR.n.2.2.1]; exact fun z => by have := (nI_eq (b := 16) (by omega) (by decide)).mp z; omega), if_pos (by rw [hR.n.1, hv]; decide)] at h1
  rcases h1 with ⟨h1, -⟩ | ⟨E, h1, h2, h3, h4⟩
  · rw [mset_s] at h1
    exact absurd h1 (by decide)
  · rw [mset_s] at h1
    rw [cdL_i2 h1.symm] at h2
    exact ⟨h2, Z, S, _, ⟨h3, LRR_29 hR.l, OB_29 hR.2.2⟩, rfl, h4⟩
theorem fv0b {em ca fa : Int32} (hR : RR Z S M L t) (ht : t < 512) (h8 : Z.N 1 < 8) (hx : (500 ≤ em.toInt ∧ em.toInt ≤ 40000) ∧ (0 ≤ ca.toInt ∧ ca.toInt ≤ 60000) ∧ (1 ≤ fa.toInt ∧ fa.toInt ≤ 300)) (hv : 0 < Z.N 0) (h : poE cvi (fun v w' => (X_vehicle Z S em ca fa) = none ∧ v = some (.int (nI (Z.N 1))) ∧ ∃ h1 h2 : Nat, w' = xW T z (zA Z 1 h1 h2) (xset (X_iVehicle (zO Z 2 h1) (xz S 2 (Z.O 2)) (Z.O 2) em ca fa) 6 1 0 ((X_iVehicle (zO Z 2 h1) (xz S 2 (Z.O 2)) (Z.O 2) em ca fa).1 6 1 0 + 1))) (px (X_vehicle Z S em ca fa) (xW T z Z S)) v w1) : FIN T z Z t (lset (lset (lset (lset L 4 (Z.N 1) em) 4 (16 + Z.N 1) ca) 4 (24 + Z.N 1) fa) 6 4 (nI (Z.N 1) + 1)) (nI (Z.N 1)) v w1 := by
  have hn := hR.np
  have hnv := hR.nv
  have e16 : M.1 16 0 = nI (Z.N 1) := hR.n.2.2.1
  have h1 := do_n (st_vehicle hR.1 ht em ca fa) h
  unfold M_vehicle at h1
  rw [if_pos ⟨iI_500_40000.mpr hx.1, iI_0_60000.mpr hx.2.1, iI_1_300.mpr hx.2.2⟩, if_neg (by rw [hR.n.2.2.1]; exact fun z => by have := (nI_eq (b := 16) (by omega) (by decide)).mp z; omega), if_neg (by rw [hR.n.1]; exact nI_ne0 hv (by omega))] at h1
  dsimp only at h1
  simp only [mset_k (show (16 : Nat) ≠ 29 by decide), mset_k (show (16 : Nat) ≠ 17 by decide), mset_k (show (16 : Nat) ≠ 18 by decide), mset_k (show (16 : Nat) ≠ 19 by decide), mset_k (show (16 : Nat) ≠ 25 by decide), e16, nI_1, nI_clamp (show Z.N 1 < 2 ^ 31 by omega), mset_s, nI_pred] at h1
  rcases h1 with ⟨h1, h2, a, b, h3, h4⟩ | ⟨E, h1, h2, h3, h4⟩
  · refine ⟨h2, _, _, _, ⟨h3, ?_, OB_t hR.2.2 (by rw [mset_k (by decide), mset_k (by decide), mset_k (by decide), mset_k (by decide), mset_k (by decide), mset_k (by decide)]) (by rw [mset_k (by decide), mset_k (by decide), mset_k (by decide), mset_k (by decide), mset_k (by decide), mset_k (by decide)]) (fun z => KI_vehicle z (j := Z.N 1) (by omega) (hR.1.fv (j := Z.N 1) (Nat.le_refl _) (by omega)).2.2.2.2 (by rw [mset_k (by decide), mset_k (by decide), mset_k (by decide), mset_k (by decide), mset_k (by decide), mset_k (by decide)]) (by rw [mset_k (by decide), mset_k (by decide), mset_k (by decide), mset_k (by decide), mset_k (by decide), mset_k (by decide)]) (by rw [mset_k (by decide), mset_k (by decide), mset_k (by decide), mset_k (by decide), mset_k (by decide), mset_k (by decide)]) (fun i hi => by rw [mset_k (by decide), mset_j hi, mset_k (by decide), mset_k (by decide), mset_k (by decide), mset_k (by decide)]))⟩, zA_A (by decide) (by decide), h4⟩
    rw [zA_N, zA_N, if_pos rfl, if_neg (by decide)]
    have hf := hR.1.fv (j := Z.N 1) (Nat.le_refl _) (by omega)
    refine LRR_vehicle (LRR_29 hR.l) h8 ?_
    rw [mset_k (by decide), mset_k (by decide), mset_k (by decide), mset_k (by decide), mset_k (by decide)]
    exact hf
  · have e29 : ∀ (A : MS), (mset (mset (mset (mset (mset A 17 (Z.N 1) em) 18 (Z.N 1) ca) 19 (Z.N 1) fa) 25 (Z.N 1) (-1)) 16 0 (nI (Z.N 1 + 1))).1 29 0 = A.1 29 0 := fun A => by rw [mset_k (by decide), mset_k (by decide), mset_k (by decide), mset_k (by decide), mset_k (by decide)]
    rw [e29, mset_s] at h1
    exact absurd h1.symm cdL_no
end
