/-! ===== what a call of does comes to: vehicles, goods, weather, minutes ===== -/
section
variable {T : Nat → ClassId} {z : Nat} {Z : XZ} {S : XS} {M : MS} {L : LwS} {t : Nat} {v : Option Value} {w1 : WD}
theorem do_load {uv ug uk : Int32} (hR : RR Z S M L t) (ht : t < 512) (hp : poE cvi (fun v w' => (X_load Z S uv ug uk) = none ∧ ∃ h1 h2 : Nat, v = some (.int (X_weight (zA Z 2 h1 h2) (X_loadS Z S h1 uv.toNatClampNeg ug uk) uv.toNatClampNeg)) ∧ w' = xW T z (zA Z 2 h1 h2) (X_loadS Z S h1 uv.toNatClampNeg ug uk)) (px (X_load Z S uv ug uk) (xW T z Z S)) v w1) : ((M_load M uv ug uk).2.1 29 0 = 0 ∧ v = some (.int (M_load M uv ug uk).1) ∧ ∃ h1 h2 : Nat, RXA (zA Z 2 h1 h2) (X_loadS Z S h1 uv.toNatClampNeg ug uk) (M_load M uv ug uk).2 (t + 1) ∧ w1 = xW T z (zA Z 2 h1 h2) (X_loadS Z S h1 uv.toNatClampNeg ug uk)) ∨ ∃ E, (M_load M uv ug uk).2.1 29 0 = cdL EIOB EIAE E ∧ v = some (.int (cdD E)) ∧ RXA Z S (M_load M uv ug uk).2 (t + 1) ∧ w1 = xW T z Z S := by
  rcases st_load hR.1 ht uv ug uk with ⟨a1, a2, a3⟩ | ⟨E, a1, a2, a3⟩
  · rcases hp with ⟨u, ⟨b1, h1, h2, b2, b3⟩, b4⟩ | ⟨E, ⟨b1, b2⟩, b3⟩
    · cases b2
      obtain ⟨c1, c2⟩ := a3 h1 h2
      exact Or.inl ⟨a2, by rw [b4, ← c1]; rfl, h1, h2, c2, b3⟩
    · rw [a1] at b1
      cases b1
  · rcases hp with ⟨u, ⟨b1, b2⟩, b4⟩ | ⟨E', ⟨b1, b2⟩, b3⟩
    · rw [a1] at b1
      cases b1
    · rw [a1] at b1
      cases b1
      exact Or.inr ⟨E, a2, b3, a3, b2⟩
theorem fv1a {g x : Int32} (hR : RR Z S M L t) (ht : t < 512) (h : poE cvi (fun v w' => (X_load Z S (nI (Z.N 1)) g x) = none ∧ ∃ h1 h2 : Nat, v = some (.int (X_weight (zA Z 2 h1 h2) (X_loadS Z S h1 (nI (Z.N 1)).toNatClampNeg g x) (nI (Z.N 1)).toNatClampNeg)) ∧ w' = xW T z (zA Z 2 h1 h2) (X_loadS Z S h1 (nI (Z.N 1)).toNatClampNeg g x)) (px (X_load Z S (nI (Z.N 1)) g x) (xW T z Z S)) v w1) : FIN T z Z t L (-30000000) v w1 := by
  have h1 := do_load hR ht h
  unfold M_load at h1
  rw [if_neg (fun z => isV_no hR.n z.1)] at h1
  rcases h1 with ⟨h1, -⟩ | ⟨E, h1, h2, h3, h4⟩
  · rw [mset_s] at h1
    exact absurd h1 (by decide)
  · rw [mset_s] at h1
    rw [cdL_i1 h1.symm] at h2
    exact ⟨h2, Z, S, _, ⟨h3, LRR_29 hR.l, OB_29 hR.2.2⟩, rfl, h4⟩
theorem fv1b {a x : Int32} (hR : RR Z S M L t) (ht : t < 512) (h : poE cvi (fun v w' => (X_load Z S a (nI 3) x) = none ∧ ∃ h1 h2 : Nat, v = some (.int (X_weight (zA Z 2 h1 h2) (X_loadS Z S h1 a.toNatClampNeg (nI 3) x) a.toNatClampNeg)) ∧ w' = xW T z (zA Z 2 h1 h2) (X_loadS Z S h1 a.toNatClampNeg (nI 3) x)) (px (X_load Z S a (nI 3) x) (xW T z Z S)) v w1) : FIN T z Z t L (-30000000) v w1 := by
  have h1 := do_load hR ht h
  unfold M_load at h1
  rw [if_neg (fun z => isG_no (M := M) z.2)] at h1
  rcases h1 with ⟨h1, -⟩ | ⟨E, h1, h2, h3, h4⟩
  · rw [mset_s] at h1
    exact absurd h1 (by decide)
  · rw [mset_s] at h1
    rw [cdL_i1 h1.symm] at h2
    exact ⟨h2, Z, S, _, ⟨h3, LRR_29 hR.l, OB_29 hR.2.2⟩, rfl, h4⟩
theorem fv1c {j g : Nat} {x : Int32} (hR : RR Z S M L t) (ht : t < 512) (hj : j < Z.N 1) (hg : g < 3) (hx : ¬ (1 ≤ x.toInt ∧ x.toInt ≤ (L 4 (16 + j)).toInt)) (h : poE cvi (fun v w' => (X_load Z S (nI j) (nI g) x) = none ∧ ∃ h1 h2 : Nat, v = some (.int (X_weight (zA Z 2 h1 h2) (X_loadS Z S h1 (nI j).toNatClampNeg (nI g) x) (nI j).toNatClampNeg)) ∧ w' = xW T z (zA Z 2 h1 h2) (X_loadS Z S h1 (nI j).toNatClampNeg (nI g) x)) (px (X_load Z S (nI j) (nI g) x) (xW T z Z S)) v w1) : FIN T z Z t L (-20000000) v w1 := by
  have hnv := hR.nv
  have ej : (nI j).toNatClampNeg = j := nI_clamp (by omega)
  have h1 := do_load hR ht h
  unfold M_load at h1
  rw [if_pos ⟨isV_ok hR.n hj, isG_ok hg⟩, if_neg (fun z => hx (by
    have := isIn_iff.mp z.2
    rw [ej, show (1 : Int32).toInt = 1 by decide, ← (hR.l.x hj).2.2.1] at this
    exact this))] at h1
  rcases h1 with ⟨h1, -⟩ | ⟨E, h1, h2, h3, h4⟩
  · rw [mset_s] at h1
    exact absurd h1 (by decide)
  · rw [mset_s] at h1
    rw [cdL_i2 h1.symm] at h2
    exact ⟨h2, Z, S, _, ⟨h3, LRR_29 hR.l, OB_29 hR.2.2⟩, rfl, h4⟩
theorem fv1e {j g : Nat} {x : Int32} (hR : RR Z S M L t) (ht : t < 512) (hj : j < Z.N 1) (hg : g < 3) (hx : 1 ≤ x.toInt ∧ x.toInt ≤ (L 4 (16 + j)).toInt) (hc : ¬ (L 3 j - L 3 j / 8 * 8 = 0 ∧ L 4 (8 + j) = 0)) (h : poE cvi (fun v w' => (X_load Z S (nI j) (nI g) x) = none ∧ ∃ h1 h2 : Nat, v = some (.int (X_weight (zA Z 2 h1 h2) (X_loadS Z S h1 (nI j).toNatClampNeg (nI g) x) (nI j).toNatClampNeg)) ∧ w' = xW T z (zA Z 2 h1 h2) (X_loadS Z S h1 (nI j).toNatClampNeg (nI g) x)) (px (X_load Z S (nI j) (nI g) x) (xW T z Z S)) v w1) : FIN T z Z t L (-10000000) v w1 := by
  have hnv := hR.nv
  have ej : (nI j).toNatClampNeg = j := nI_clamp (by omega)
  have h1 := do_load hR ht h
  unfold M_load at h1
  rw [if_pos ⟨isV_ok hR.n hj, isG_ok hg⟩, if_pos ⟨⟨isV_ok hR.n hj, isG_ok hg⟩, isIn_iff.mpr (by rw [ej, show (1 : Int32).toInt = 1 by decide, ← (hR.l.x hj).2.2.1]; exact hx)⟩] at h1
  rw [ej] at h1
  rw [(hR.l.w hj).wh, (hR.l.x hj).2.1] at hc
  obtain ⟨-, -, -, -, h24, -⟩ := hR.i.2.2.1 j hj
  have bad : (∃ E, (mset M 29 0 3).1 29 0 = cdL EIOB EIAE E ∧ v = some (.int (cdD E)) ∧ RXA Z S (mset M 29 0 3) (t + 1) ∧ w1 = xW T z Z S) → FIN T z Z t L (-10000000) v w1 := by
    rintro ⟨E, h1, h2, h3, h4⟩
    rw [mset_s] at h1
    obtain ⟨c1, c2⟩ := cdL_i3 h1.symm
    unfold cdD at h2
    rw [if_neg c1, if_neg c2] at h2
    exact ⟨h2, Z, S, _, ⟨h3, LRR_29 hR.l, OB_29 hR.2.2⟩, rfl, h4⟩
  by_cases c1 : M.1 20 j = 0
  · have c2 : ¬ M.1 24 j ≤ 0 := fun z => hc ⟨c1, Int32.toInt_inj.mp (by
      rw [Int32.le_iff_toInt_le, Int32.toInt_zero] at z
      have := h24.1
      rw [Int32.toInt_zero]
      omega)⟩
    rw [if_pos c1, if_neg c2] at h1
    rcases h1 with ⟨h1, -⟩ | h1
    · rw [mset_s] at h1
      exact absurd h1 (by decide)
    · exact bad h1
  · rw [if_neg c1] at h1
    rcases h1 with ⟨h1, -⟩ | h1
    · rw [mset_s] at h1
      exact absurd h1 (by decide)
    · exact bad h1
theorem fv1d {j g : Nat} {x : Int32} (hR : RR Z S M L t) (ht : t < 512) (hj : j < Z.N 1) (hg : g < 3) (hx : 1 ≤ x.toInt ∧ x.toInt ≤ (L 4 (16 + j)).toInt) (hc : L 3 j - L 3 j / 8 * 8 = 0 ∧ L 4 (8 + j) = 0) (h : poE cvi (fun v w' => (X_load Z S (nI j) (nI g) x) = none ∧ ∃ h1 h2 : Nat, v = some (.int (X_weight (zA Z 2 h1 h2) (X_loadS Z S h1 (nI j).toNatClampNeg (nI g) x) (nI j).toNatClampNeg)) ∧ w' = xW T z (zA Z 2 h1 h2) (X_loadS Z S h1 (nI j).toNatClampNeg (nI g) x)) (px (X_load Z S (nI j) (nI g) x) (xW T z Z S)) v w1) : FIN T z Z t (lset (lset (lset L 4 (8 + j) x) 3 j (L 3 j + 256 * (nI g + 1))) 5 g (L 5 g + x)) (L 4 j + x) v w1 := by
  have hnv := hR.nv
  have hn := hR.np
  have ej : (nI j).toNatClampNeg = j := nI_clamp (by omega)
  have eg : (nI g).toNatClampNeg = g := nI_clamp (by omega)
  have h1 := do_load hR ht h
  rw [(hR.l.w hj).wh, (hR.l.x hj).2.1] at hc
  unfold M_load at h1
  rw [if_pos ⟨isV_ok hR.n hj, isG_ok hg⟩, if_pos ⟨⟨isV_ok hR.n hj, isG_ok hg⟩, isIn_iff.mpr (by rw [ej, show (1 : Int32).toInt = 1 by decide, ← (hR.l.x hj).2.2.1]; exact hx)⟩] at h1
  rw [ej, eg, if_pos hc.1, if_pos (by rw [hc.2]; decide)] at h1
  dsimp only at h1
  rw [mset_k (show (26 : Nat) ≠ 25 by decide), mset_k (show (26 : Nat) ≠ 24 by decide), mset_k (show (26 : Nat) ≠ 29 by decide)] at h1
  rcases h1 with ⟨h1, h2, a, b, h3, h4⟩ | ⟨E, h1, -⟩
  · refine ⟨?_, _, _, _, ⟨h3, ?_, OB_t hR.2.2 (by rw [mset_k (by decide), mset_k (by decide), mset_k (by decide), mset_k (by decide)]) (by rw [mset_k (by decide), mset_k (by decide), mset_k (by decide), mset_k (by decide)]) (fun z => KI_load z (j := j) (g := g) (x := x) (by omega) hc.2 (by rw [mset_k (by decide), mset_k (by decide), mset_s]) (by rw [mset_k (by decide), mset_s]) (fun i hi => ⟨by rw [mset_k (by decide), mset_k (by decide), mset_j hi, mset_k (by decide)], by rw [mset_k (by decide), mset_j hi, mset_k (by decide), mset_k (by decide)]⟩) hg mset_s (fun i hi => by rw [mset_j hi, mset_k (by decide), mset_k (by decide), mset_k (by decide)]) (by rw [mset_k (by decide), mset_k (by decide), mset_k (by decide), mset_k (by decide)]))⟩, zA_A (by decide) (by decide), h4⟩
    · rw [h2]
      unfold M_weight
      rw [ej, mset_k (by decide), mset_k (by decide), mset_k (by decide), mset_k (by decide), mset_k (show (24 : Nat) ≠ 26 by decide), mset_k (show (24 : Nat) ≠ 25 by decide), mset_s, (hR.l.x hj).1]
    · rw [zA_N, zA_N, if_neg (by decide), if_neg (by decide)]
      have h29 : LRR (mset M 29 0 0) L (Z.N 0) (Z.N 1) := LRR_29 hR.l
      rw [(hR.l.k hg).1]
      refine LRR_k ?_ hg (Or.inl ⟨rfl, rfl⟩)
      obtain ⟨w, a', y, g', q1, q2, q3, q4, e1, e2, e3, e4, e5, e6⟩ := h29.w hj
      obtain ⟨x1, x2, x3, x4, x5⟩ := h29.x hj
      have eg0 : g' = 0 := by
        rcases e6 with z | z
        · exact z.1
        · rw [mset_k (by decide), hc.2, Int32.toInt_zero] at z
          omega
      subst eg0
      refine LRR_veh h29 hj (fun k i hk => by rw [mset_k (by omega), mset_k (by omega)]) (fun k i hi => by rw [mset_j hi, mset_j hi]) rfl (fun k i a b => by rw [lset_k a, lset_k b]) (fun i hi hne => ⟨by rw [lset_j hne, lset_k (by decide)], fun r hr => by rw [lset_k (by decide), lset_n (by omega)]⟩) ⟨w, a', y, g + 1, q1, q2, q3, by omega, ?_, ?_, ?_, ?_, ?_, Or.inr ⟨by omega, ?_⟩⟩ ⟨?_, ?_, ?_, ?_, ?_⟩
      · rw [mset_k (by decide), mset_k (by decide)]; exact e1
      · rw [mset_k (by decide), mset_k (by decide)]; exact e2
      · rw [mset_k (by decide), mset_k (by decide)]; exact e3
      · rw [mset_s, nI_pred]
      · rw [lset_s, e5, nI_1, show (256 : Int32) = nI 256 from rfl, nI_mul, nI_add]
        congr 1
      · rw [mset_k (by decide), mset_s]; omega
      · rw [lset_k (by decide), lset_n (by omega), mset_k (by decide), mset_k (by decide)]; exact x1
      · rw [lset_k (by decide), lset_s, mset_k (by decide), mset_s]
      · rw [lset_k (by decide), lset_n (by omega), mset_k (by decide), mset_k (by decide)]; exact x3
      · rw [lset_k (by decide), lset_n (by omega), mset_k (by decide), mset_k (by decide)]; exact x4
      · rw [lset_k (by decide), lset_n (by omega), mset_k (by decide), mset_k (by decide)]; exact x5
  · rw [mset_k (by decide), mset_k (by decide), mset_k (by decide), mset_s] at h1
    exact absurd h1.symm cdL_no
/-! go, turn -/
theorem fv2a (hR : RR Z S M L t) (ht : t < 512) (h : poE cvb (pvx (X_go Z S (nI (Z.N 1))).1 (.int (X_go Z S (nI (Z.N 1))).2.1) (xW T z Z (X_go Z S (nI (Z.N 1))).2.2)) (px (X_go Z S (nI (Z.N 1))).1 (xW T z Z S)) v w1) : FIN T z Z t L (-30000000) v w1 := by
  have h1 := do_b (st_go hR.1 ht (nI (Z.N 1))) h
  unfold M_go at h1
  rw [if_neg (isV_no hR.n)] at h1
  exact fin_1 h1 mset_s (LRR_29 hR.l) (OB_29 hR.2.2)
theorem fv2d {j : Nat} (hR : RR Z S M L t) (ht : t < 512) (hj : j < Z.N 1) (h0 : ¬ L 3 j - L 3 j / 8 * 8 = 0) (h3 : ¬ L 3 j - L 3 j / 8 * 8 = 3) (h : poE cvb (pvx (X_go Z S (nI j)).1 (.int (X_go Z S (nI j)).2.1) (xW T z Z (X_go Z S (nI j)).2.2)) (px (X_go Z S (nI j)).1 (xW T z Z S)) v w1) : FIN T z Z t L (-10000000) v w1 := by
  have hnv := hR.nv
  have ej : (nI j).toNatClampNeg = j := nI_clamp (by omega)
  rw [(hR.l.w hj).wh] at h0 h3
  have h1 := do_b (st_go hR.1 ht (nI j)) h
  unfold M_go at h1
  rw [if_pos (isV_ok hR.n hj), if_neg (fun z => by rw [ej] at z; exact z.2.elim h0 h3)] at h1
  exact fin_2 h1 mset_s (LRR_29 hR.l) (OB_29 hR.2.2)
/-- a vehicle's place and way -/
theorem LRR_wy {M : MS} {S : LwS} {np nv j w' y' : Nat} {d : Int32} (h : LRR M S np nv) (hj : j < nv) (hw : w' ≤ 4) (hy : y' ≤ 1) (hd : d = (nI w' - M.1 20 j) + 128 * (nI y' - M.1 22 j)) : LRR (mset (mset M 22 j (nI y')) 20 j (nI w')) (lset S 3 j (S 3 j + d)) np nv := by
  obtain ⟨w, a, y, g, q1, q2, q3, q4, e1, e2, e3, e4, e5, e6⟩ := h.w hj
  obtain ⟨x1, x2, x3, x4, x5⟩ := h.x hj
  refine LRR_veh h hj (fun k i hk => by rw [mset_k (by omega), mset_k (by omega)]) (fun k i hi => by rw [mset_j hi, mset_j hi]) rfl (fun k i a b => by rw [lset_k a]) (fun i hi hne => ⟨lset_j hne, fun r hr => by rw [lset_k (by decide)]⟩) ⟨w', a, y', g, hw, q2, hy, q4, mset_s, ?_, ?_, ?_, ?_, ?_⟩ ⟨?_, ?_, ?_, ?_, ?_⟩
  · rw [mset_k (by decide), mset_k (by decide)]; exact e2
  · rw [mset_k (by decide), mset_s]
  · rw [mset_k (by decide), mset_k (by decide)]; exact e4
  · rw [lset_s, hd, e5, e1, e3, show w + 8 * a + 128 * y + 256 * g = (8 * a + 256 * g) + (w + 128 * y) by omega, show w' + 8 * a + 128 * y' + 256 * g = (8 * a + 256 * g) + (w' + 128 * y') by omega, ← nI_add (8 * a + 256 * g), ← nI_add (8 * a + 256 * g), ← nI_add w, ← nI_add w', ← nI_mul 128 y, ← nI_mul 128 y']
    show nI (8 * a + 256 * g) + (nI w + 128 * nI y) + (nI w' - nI w + 128 * (nI y' - nI y)) = nI (8 * a + 256 * g) + (nI w' + 128 * nI y')
    grind
  · rw [mset_k (by decide), mset_k (by decide)]; exact e6
  · rw [lset_k (by decide), mset_k (by decide), mset_k (by decide)]; exact x1
  · rw [lset_k (by decide), mset_k (by decide), mset_k (by decide)]; exact x2
  · rw [lset_k (by decide), mset_k (by decide), mset_k (by decide)]; exact x3
  · rw [lset_k (by decide), mset_k (by decide), mset_k (by decide)]; exact x4
  · rw [lset_k (by decide), mset_k (by decide), mset_k (by decide)]; exact x5
theorem fv2b {j : Nat} (hR : RR Z S M L t) (ht : t < 512) (hj : j < Z.N 1) (h0 : L 3 j - L 3 j / 8 * 8 = 0) (h : poE cvb (pvx (X_go Z S (nI j)).1 (.int (X_go Z S (nI j)).2.1) (xW T z Z (X_go Z S (nI j)).2.2)) (px (X_go Z S (nI j)).1 (xW T z Z S)) v w1) : FIN T z Z t (lset L 3 j (L 3 j + (2 + 128 * (1 - (L 3 j / 128 - L 3 j / 128 / 2 * 2))))) 1 v w1 := by
  have hnv := hR.nv
  have ej : (nI j).toNatClampNeg = j := nI_clamp (by omega)
  rw [(hR.l.w hj).wh] at h0
  rw [(hR.l.w hj).way]
  have h1 := do_b (st_go hR.1 ht (nI j)) h
  unfold M_go at h1
  rw [if_pos (isV_ok hR.n hj), if_pos (by rw [ej]; exact ⟨isV_ok hR.n hj, Or.inl h0⟩)] at h1
  dsimp only at h1
  rw [ej] at h1
  rw [mset_k (show (22 : Nat) ≠ 20 by decide), mset_s, mset_k (show (20 : Nat) ≠ 29 by decide), bI_t h0, show bz 1 = 1 by decide] at h1
  refine fin_0 h1 (by rw [mset_k (by decide), mset_k (by decide), mset_s]) ?_ (OB_t hR.2.2 (by rw [mset_k (by decide), mset_k (by decide), mset_k (by decide)]) (by rw [mset_k (by decide), mset_k (by decide), mset_k (by decide)]) (fun z => KI_t z (fun k a b => (by rw [mset_k (by omega), mset_k (by omega), mset_k (by omega)]))))
  refine LRR_wy (w' := 2) (y' := 1) (LRR_29 hR.l) hj (by omega) (by omega) ?_
  rw [mset_k (by decide), mset_k (by decide), h0]
  show 2 + 128 * (1 - M.1 22 j) = (2 - 0) + 128 * (1 - M.1 22 j)
  grind
theorem fv2c {j : Nat} (hR : RR Z S M L t) (ht : t < 512) (hj : j < Z.N 1) (h0 : L 3 j - L 3 j / 8 * 8 = 3) (h : poE cvb (pvx (X_go Z S (nI j)).1 (.int (X_go Z S (nI j)).2.1) (xW T z Z (X_go Z S (nI j)).2.2)) (px (X_go Z S (nI j)).1 (xW T z Z S)) v w1) : FIN T z Z t (lset L 3 j (L 3 j + (-1 - 128 * (L 3 j / 128 - L 3 j / 128 / 2 * 2)))) 0 v w1 := by
  have hnv := hR.nv
  have ej : (nI j).toNatClampNeg = j := nI_clamp (by omega)
  rw [(hR.l.w hj).wh] at h0
  rw [(hR.l.w hj).way]
  have h1 := do_b (st_go hR.1 ht (nI j)) h
  unfold M_go at h1
  rw [if_pos (isV_ok hR.n hj), if_pos (by rw [ej]; exact ⟨isV_ok hR.n hj, Or.inr h0⟩)] at h1
  dsimp only at h1
  rw [ej] at h1
  rw [mset_k (show (22 : Nat) ≠ 20 by decide), mset_s, mset_k (show (20 : Nat) ≠ 29 by decide), bI_f (show ¬ M.1 20 j = 0 by rw [h0]; decide), show bz 0 = 0 by decide] at h1
  refine fin_0 h1 (by rw [mset_k (by decide), mset_k (by decide), mset_s]) ?_ (OB_t hR.2.2 (by rw [mset_k (by decide), mset_k (by decide), mset_k (by decide)]) (by rw [mset_k (by decide), mset_k (by decide), mset_k (by decide)]) (fun z => KI_t z (fun k a b => (by rw [mset_k (by omega), mset_k (by omega), mset_k (by omega)]))))
  refine LRR_wy (w' := 2) (y' := 0) (LRR_29 hR.l) hj (by omega) (by omega) ?_
  rw [mset_k (by decide), mset_k (by decide), h0]
  show -1 - 128 * M.1 22 j = (2 - 3) + 128 * (0 - M.1 22 j)
  grind
theorem fv3a (hR : RR Z S M L t) (ht : t < 512) (h : poE cvb (pvx (X_turn Z S (nI (Z.N 1))).1 (.int (X_turn Z S (nI (Z.N 1))).2.1) (xW T z Z (X_turn Z S (nI (Z.N 1))).2.2)) (px (X_turn Z S (nI (Z.N 1))).1 (xW T z Z S)) v w1) : FIN T z Z t L (-30000000) v w1 := by
  have h1 := do_b (st_turn hR.1 ht (nI (Z.N 1))) h
  unfold M_turn at h1
  rw [if_neg (isV_no hR.n)] at h1
  exact fin_1 h1 mset_s (LRR_29 hR.l) (OB_29 hR.2.2)
theorem fv3z {j : Nat} (hR : RR Z S M L t) (ht : t < 512) (hj : j < Z.N 1) (h0 : ¬ L 3 j - L 3 j / 8 * 8 = 2) (h : poE cvb (pvx (X_turn Z S (nI j)).1 (.int (X_turn Z S (nI j)).2.1) (xW T z Z (X_turn Z S (nI j)).2.2)) (px (X_turn Z S (nI j)).1 (xW T z Z S)) v w1) : FIN T z Z t L (-10000000) v w1 := by
  have hnv := hR.nv
  have ej : (nI j).toNatClampNeg = j := nI_clamp (by omega)
  rw [(hR.l.w hj).wh] at h0
  have h1 := do_b (st_turn hR.1 ht (nI j)) h
  unfold M_turn at h1
  rw [if_pos (isV_ok hR.n hj), if_neg (by rw [ej]; exact h0)] at h1
  exact fin_2 h1 mset_s (LRR_29 hR.l) (OB_29 hR.2.2)
theorem LRR_y {M : MS} {S : LwS} {np nv j y' : Nat} {d : Int32} (h : LRR M S np nv) (hj : j < nv) (hy : y' ≤ 1) (hd : d = 128 * (nI y' - M.1 22 j)) : LRR (mset M 22 j (nI y')) (lset S 3 j (S 3 j + d)) np nv := by
  obtain ⟨w, a, y, g, q1, q2, q3, q4, e1, -⟩ := h.w hj
  have h1 := LRR_wy (w' := w) (y' := y') (d := d) h hj q1 hy (by rw [hd, e1]; grind)
  have e : mset (mset M 22 j (nI y')) 20 j (nI w) = mset M 22 j (nI y') := by
    have := lmset_id (M := mset M 22 j (nI y')) (k := 20) (i := j)
    rw [mset_k (by decide), e1] at this
    exact this
  rw [e] at h1
  exact h1
/-- turning: the way changed, then at an end or not -/
theorem do_turn {j : Nat} (hR : RR Z S M L t) (ht : t < 512) (hj : j < Z.N 1) (h0 : M.1 20 j = 2) {y' : Nat} (hy : y' ≤ 1) (e22 : bI (M.1 22 j = 0) = nI y') (h : poE cvb (pvx (X_turn Z S (nI j)).1 (.int (X_turn Z S (nI j)).2.1) (xW T z Z (X_turn Z S (nI j)).2.2)) (px (X_turn Z S (nI j)).1 (xW T z Z S)) v w1) : ∃ M6 : MS, M6 = mset (mset M 29 0 0) 22 j (nI y') ∧ LRR M6 (lset L 3 j (L 3 j + 128 * (nI y' - M.1 22 j))) (Z.N 0) (Z.N 1) ∧ M6.1 20 j = nI 2 ∧ M6.1 22 j = nI y' ∧ (∀ L', LRR (if M6.1 21 j = (if M6.1 22 j = 0 then 0 else M6.1 3 0) then M_arrives M6 (nI j) else M6) L' (Z.N 0) (Z.N 1) → FIN T z Z t L' (nI y') v w1) := by
  have hnv := hR.nv
  have ej : (nI j).toNatClampNeg = j := nI_clamp (by omega)
  have h1 := do_b (st_turn hR.1 ht (nI j)) h
  have eT : ∀ q : Int32, q.toNatClampNeg = j → M_isVehicle M q → M_turn M q = ((if M_isThere (mset (mset M 29 0 0) 22 j (bI ((mset M 29 0 0).1 22 j = 0))) q then M_arrives (mset (mset M 29 0 0) 22 j (bI ((mset M 29 0 0).1 22 j = 0))) q else mset (mset M 29 0 0) 22 j (bI ((mset M 29 0 0).1 22 j = 0))).1 22 j, (if M_isThere (mset (mset M 29 0 0) 22 j (bI ((mset M 29 0 0).1 22 j = 0))) q then M_arrives (mset (mset M 29 0 0) 22 j (bI ((mset M 29 0 0).1 22 j = 0))) q else mset (mset M 29 0 0) 22 j (bI ((mset M 29 0 0).1 22 j = 0)))) := by
    intro q hq hv
    subst hq
    unfold M_turn
    rw [if_pos hv, if_pos h0]
  rw [eT (nI j) ej (isV_ok hR.n hj)] at h1
  dsimp only at h1
  rw [mset_k (show (22 : Nat) ≠ 29 by decide), e22] at h1
  have h29 := LRR_29 (j := 0) (v := 0) hR.l
  refine ⟨_, rfl, ?_, ?_, mset_s, ?_⟩
  · have := LRR_y (y' := y') (d := 128 * (nI y' - M.1 22 j)) h29 hj hy (by rw [mset_k (by decide)])
    exact this
  · rw [mset_k (by decide), mset_k (by decide), h0]; rfl
  · generalize eM6 : mset (mset M 29 0 0) 22 j (nI y') = M6 at h1
    have h6 : KI M → KI M6 := fun z => by rw [← eM6]; exact KI_t z (fun k a b => by rw [mset_k (by omega), mset_k (by omega)])
    have k29 : ∀ (c : Prop) [Decidable c], (if c then M_arrives M6 (nI j) else M6).1 29 = M6.1 29 := fun c _ => ite_k (M_arr_k (by omega)) rfl
    have k28 : ∀ (c : Prop) [Decidable c], (if c then M_arrives M6 (nI j) else M6).1 28 = M6.1 28 := fun c _ => ite_k (M_arr_k (by omega)) rfl
    have k0 : ∀ (c : Prop) [Decidable c], (if c then M_arrives M6 (nI j) else M6).1 0 = M6.1 0 := fun c _ => ite_k (M_arr_k (by omega)) rfl
    have k22 : ∀ (c : Prop) [Decidable c], (if c then M_arrives M6 (nI j) else M6).1 22 = M6.1 22 := fun c _ => ite_k (by rw [M_arrives_k _ _ (by decide) (by decide) (by decide) (by decide) (by decide)]) rfl
    have s22 : M6.1 22 j = nI y' := by rw [← eM6, mset_s]
    intro L' hL
    simp only [s22] at hL
    have hth : (M_isThere M6 (nI j)) = (M6.1 21 j = (if M6.1 22 j = 0 then 0 else M6.1 3 0)) := by
      unfold M_isThere
      dsimp only
      rw [ej]
    simp only [hth] at h1
    rw [k22, s22] at h1
    have ey : bz (nI y') = nI y' := by
      rcases (show y' = 0 ∨ y' = 1 by omega) with rfl | rfl <;> decide
    rw [ey] at h1
    exact fin_0 h1 (by rw [k29, ← eM6, mset_k (by decide), mset_s]) hL (OB_t hR.2.2 (by rw [k0, ← eM6, mset_k (by decide), mset_k (by decide)]) (by rw [k28, ← eM6, mset_k (by decide), mset_k (by decide)]) (fun z => ite_KI (KI_arr (h6 z) (by omega) (fun z => by rw [← eM6, mset_k (by decide), mset_k (by decide)] at z ⊢; exact MI_ld0 hR.i hj z) (fun z => by rw [← eM6, mset_k (by decide), mset_k (by decide)] at z ⊢; exact hR.i.2.1 j z)) (h6 z)))
theorem fv3_no {j y' : Nat} {d y0 : Int32} (hR : RR Z S M L t) (ht : t < 512) (hj : j < Z.N 1) (h0 : L 3 j - L 3 j / 8 * 8 = 2) (hw : L 3 j / 128 - L 3 j / 128 / 2 * 2 = y0) (hyy : (y0 = 1 ∧ y' = 0 ∧ d = -128) ∨ (y0 = 0 ∧ y' = 1 ∧ d = 128)) (hc : ¬ L 3 j / 8 - L 3 j / 8 / 16 * 16 = (if y' = 0 then 0 else L 6 3)) (h : poE cvb (pvx (X_turn Z S (nI j)).1 (.int (X_turn Z S (nI j)).2.1) (xW T z Z (X_turn Z S (nI j)).2.2)) (px (X_turn Z S (nI j)).1 (xW T z Z S)) v w1) : FIN T z Z t (lset L 3 j (L 3 j + d)) (nI y') v w1 := by
  have hnv := hR.nv
  rw [(hR.l.w hj).wh] at h0
  rw [(hR.l.w hj).way] at hw
  rw [(hR.l.w hj).at_, hR.l.g.2.2.2.1] at hc
  obtain ⟨M6, eM, hL, m20, m22, hF⟩ := do_turn hR ht hj h0 (y' := y') (by omega) (by rw [hw]; rcases hyy with ⟨rfl, rfl, -⟩ | ⟨rfl, rfl, -⟩ <;> decide) h
  have hd : d = 128 * (nI y' - M.1 22 j) := by
    rw [hw]
    rcases hyy with ⟨rfl, rfl, rfl⟩ | ⟨rfl, rfl, rfl⟩ <;> decide
  rw [hd]
  refine hF _ ?_
  rw [if_neg]
  · exact hL
  · rw [m22, eM, mset_k (show (21 : Nat) ≠ 22 by decide), mset_k (show (21 : Nat) ≠ 29 by decide), mset_k (show (3 : Nat) ≠ 22 by decide), mset_k (show (3 : Nat) ≠ 29 by decide), hR.n.1]
    rcases hyy with ⟨-, rfl, -⟩ | ⟨-, rfl, -⟩
    · rw [if_pos (by decide)]; exact hc
    · rw [if_neg (by decide)]; exact hc
theorem fv3_at {j y' : Nat} {d d2 y0 : Int32} (hR : RR Z S M L t) (ht : t < 512) (hj : j < Z.N 1) (h0 : L 3 j - L 3 j / 8 * 8 = 2) (hw : L 3 j / 128 - L 3 j / 128 / 2 * 2 = y0) (hyy : (y0 = 1 ∧ y' = 0 ∧ d = -128 ∧ d2 = -2) ∨ (y0 = 0 ∧ y' = 1 ∧ d = 128 ∧ d2 = 1)) (hc : L 3 j / 8 - L 3 j / 8 / 16 * 16 = (if y' = 0 then 0 else L 6 3)) (h : poE cvb (pvx (X_turn Z S (nI j)).1 (.int (X_turn Z S (nI j)).2.1) (xW T z Z (X_turn Z S (nI j)).2.2)) (px (X_turn Z S (nI j)).1 (xW T z Z S)) v w1) : FIN T z Z t (L_unloads (lset (lset L 3 j (L 3 j + d)) 3 j ((lset L 3 j (L 3 j + d)) 3 j + d2)) (nI j) (nI y')) (nI y') v w1 := by
  have hnv := hR.nv
  have ej : (nI j).toNatClampNeg = j := nI_clamp (by omega)
  rw [(hR.l.w hj).wh] at h0
  rw [(hR.l.w hj).way] at hw
  rw [(hR.l.w hj).at_, hR.l.g.2.2.2.1] at hc
  obtain ⟨M6, eM, hL, m20, m22, hF⟩ := do_turn hR ht hj h0 (y' := y') (by omega) (by rw [hw]; rcases hyy with ⟨rfl, rfl, -⟩ | ⟨rfl, rfl, -⟩ <;> decide) h
  have hd : d = 128 * (nI y' - M.1 22 j) := by
    rw [hw]
    rcases hyy with ⟨rfl, rfl, rfl, -⟩ | ⟨rfl, rfl, rfl, -⟩ <;> decide
  rw [hd]
  refine hF _ ?_
  rw [if_pos]
  · unfold M_arrives
    dsimp only
    rw [ej, mset_k (show (22 : Nat) ≠ 20 by decide), m22]
    refine LRR_unl ?_ hj
    rcases hyy with ⟨-, rfl, -, rfl⟩ | ⟨-, rfl, -, rfl⟩
    · rw [if_pos (by decide)]
      exact LRR_st (w' := 0) hL hj (by omega) (by rw [m20]; decide)
    · rw [if_neg (by decide)]
      exact LRR_st (w' := 3) hL hj (by omega) (by rw [m20]; decide)
  · rw [m22, eM, mset_k (show (21 : Nat) ≠ 22 by decide), mset_k (show (21 : Nat) ≠ 29 by decide), mset_k (show (3 : Nat) ≠ 22 by decide), mset_k (show (3 : Nat) ≠ 29 by decide), hR.n.1]
    rcases hyy with ⟨-, rfl, -⟩ | ⟨-, rfl, -⟩
    · rw [if_pos (by decide)]; exact hc
    · rw [if_neg (by decide)]; exact hc
/-! weather, goods ordered, gap, minutes -/
theorem ft0a {c : Int32} (hR : RR Z S M L t) (ht : t < 512) (hx : -20 ≤ c.toInt ∧ c.toInt ≤ 60) (h : poE cvi (pvx (X_weather Z S c).1 (.int (X_weather Z S c).2.1) (xW T z Z (X_weather Z S c).2.2)) (px (X_weather Z S c).1 (xW T z Z S)) v w1) : FIN T z Z t (lset L 6 1 c) (L 6 1) v w1 := by
  have h1 := do_i (st_weatherA hR.1 ht c) h
  unfold M_weather at h1
  rw [if_pos (iI_m20_60.mpr hx)] at h1
  dsimp only at h1
  rw [mset_k (show (1 : Nat) ≠ 29 by decide), ← hR.l.g.2.1] at h1
  exact fin_0 h1 (by rw [mset_k (by decide), mset_s]) (LRR_0 (LRR_29 hR.l) (by omega)) (OB_t hR.2.2 (by rw [mset_k (by decide), mset_k (by decide)]) (by rw [mset_k (by decide), mset_k (by decide)]) (fun z => KI_t z (fun k a b => (by rw [mset_k (by omega), mset_k (by omega)]))))
theorem ft0b {c : Int32} (hR : RR Z S M L t) (ht : t < 512) (hx : ¬ (-20 ≤ c.toInt ∧ c.toInt ≤ 60)) (h : poE cvi (pvx (X_weather Z S c).1 (.int (X_weather Z S c).2.1) (xW T z Z (X_weather Z S c).2.2)) (px (X_weather Z S c).1 (xW T z Z S)) v w1) : FIN T z Z t (lset L 6 1 (L 6 1)) (-20000000) v w1 := by
  have h1 := do_i (st_weatherA hR.1 ht c) h
  unfold M_weather at h1
  rw [if_neg (fun z => hx (iI_m20_60.mp z))] at h1
  rw [lset_id]
  exact fin_1 h1 mset_s (LRR_29 hR.l) (OB_29 hR.2.2)
theorem ft2a {c : Int32} (hR : RR Z S M L t) (ht : t < 512) (hx : 0 ≤ c.toInt ∧ c.toInt ≤ 120) (h : poE cvi (pvx (X_gap Z S c).1 (.int (X_gap Z S c).2.1) (xW T z Z (X_gap Z S c).2.2)) (px (X_gap Z S c).1 (xW T z Z S)) v w1) : FIN T z Z t (lset L 6 2 c) (L 6 2) v w1 := by
  have h1 := do_i (st_gapA hR.1 ht c) h
  unfold M_gap at h1
  rw [if_pos (iI_0_120.mpr hx)] at h1
  dsimp only at h1
  rw [mset_k (show (2 : Nat) ≠ 29 by decide), ← hR.l.g.2.2.1] at h1
  exact fin_0 h1 (by rw [mset_k (by decide), mset_s]) (LRR_0 (LRR_29 hR.l) (by omega)) (OB_t hR.2.2 (by rw [mset_k (by decide), mset_k (by decide)]) (by rw [mset_k (by decide), mset_k (by decide)]) (fun z => KI_t z (fun k a b => (by rw [mset_k (by omega), mset_k (by omega)]))))
theorem ft2b {c : Int32} (hR : RR Z S M L t) (ht : t < 512) (hx : ¬ (0 ≤ c.toInt ∧ c.toInt ≤ 120)) (h : poE cvi (pvx (X_gap Z S c).1 (.int (X_gap Z S c).2.1) (xW T z Z (X_gap Z S c).2.2)) (px (X_gap Z S c).1 (xW T z Z S)) v w1) : FIN T z Z t (lset L 6 2 (L 6 2)) (-20000000) v w1 := by
  have h1 := do_i (st_gapA hR.1 ht c) h
  unfold M_gap at h1
  rw [if_neg (fun z => hx (iI_0_120.mp z))] at h1
  rw [lset_id]
  exact fin_1 h1 mset_s (LRR_29 hR.l) (OB_29 hR.2.2)
theorem ft1a {c x : Int32} (hR : RR Z S M L t) (ht : t < 512) (h : poE cvi (pvx (X_order Z S (nI 3) c).1 (.int (X_order Z S (nI 3) c).2.1) (xW T z Z (X_order Z S (nI 3) c).2.2)) (px (X_order Z S (nI 3) c).1 (xW T z Z S)) v w1) : FIN T z Z t (lset L 5 9 x) (-30000000) v w1 := by
  have h1 := do_i (st_order hR.1 ht (nI 3) c) h
  unfold M_order at h1
  rw [if_neg (show ¬ M_isGoods M (nI 3) from isG_no)] at h1
  exact fin_1 h1 mset_s (LRR_gb (LRR_29 hR.l) (Or.inr (Or.inr ⟨rfl, rfl⟩))) (OB_29 hR.2.2)
theorem ft1c {g : Nat} {c x : Int32} (hR : RR Z S M L t) (ht : t < 512) (hg : g < 3) (hx : ¬ (1 ≤ c.toInt ∧ c.toInt ≤ 1000000)) (h : poE cvi (pvx (X_order Z S (nI g) c).1 (.int (X_order Z S (nI g) c).2.1) (xW T z Z (X_order Z S (nI g) c).2.2)) (px (X_order Z S (nI g) c).1 (xW T z Z S)) v w1) : FIN T z Z t (lset L 5 9 x) (-20000000) v w1 := by
  have h1 := do_i (st_order hR.1 ht (nI g) c) h
  unfold M_order at h1
  rw [if_pos (isG_ok hg), if_neg (fun z => hx (iI_1_1000000.mp z))] at h1
  exact fin_2 h1 mset_s (LRR_gb (LRR_29 hR.l) (Or.inr (Or.inr ⟨rfl, rfl⟩))) (OB_29 hR.2.2)
theorem ft1b {g : Nat} {c : Int32} (hR : RR Z S M L t) (ht : t ≤ 100) (hg : g < 3) (hx : 1 ≤ c.toInt ∧ c.toInt ≤ 60000) (h : poE cvi (pvx (X_order Z S (nI g) c).1 (.int (X_order Z S (nI g) c).2.1) (xW T z Z (X_order Z S (nI g) c).2.2)) (px (X_order Z S (nI g) c).1 (xW T z Z S)) v w1) : FIN T z Z t (lset L 5 (6 + g) (L 5 (6 + g) + c)) ((lset L 5 (6 + g) (L 5 (6 + g) + c)) 5 (6 + g)) v w1 := by
  have eg : (nI g).toNatClampNeg = g := nI_clamp (by omega)
  have ho := hR.2.2.2.1 g hg
  have hr := (hR.1.1.g hg).2.2.2.2.2
  have h1 := do_i (st_order hR.1 (by omega) (nI g) c) h
  have ht28 : (M.1 28 g + c).toInt = (M.1 28 g).toInt + c.toInt := by
    rw [Int32.toInt_add, Int.bmod_eq_of_le (by have := hr.1; omega) (by omega)]
  unfold M_order at h1
  rw [if_pos (isG_ok hg), if_pos (iI_1_1000000.mpr ⟨hx.1, by omega⟩), eg, if_pos (by rw [Int32.le_iff_toInt_le, ht28, show (10000000 : Int32).toInt = 10000000 by decide]; omega)] at h1
  dsimp only at h1
  rw [mset_s, mset_k (show (28 : Nat) ≠ 29 by decide)] at h1
  rw [lset_s, (hR.l.k hg).2.2]
  refine fin_0 h1 (by rw [mset_k (by decide), mset_s]) (LRR_k (LRR_29 hR.l) hg (Or.inr (Or.inr ⟨rfl, rfl⟩))) ⟨?_, fun g' hg' => ?_, KI_t hR.2.2.2.2 (fun k a b => by rw [mset_k (by omega), mset_k (by omega)])⟩
  · rw [mset_k (by decide), mset_k (by decide)]
    have := hR.2.2.1
    omega
  · by_cases c : g' = g
    · subst c
      rw [mset_s, ht28]
      omega
    · rw [mset_j c, mset_k (by decide)]
      have := hR.2.2.2.1 g' hg'
      omega
/-- n minutes -/
def L_pass_s (S : LwS) (_ : Nat) : LwS := L_minute S
def L_pass_f (S : LwS) : Nat → LwS
  | 0 => S
  | n + 1 => L_pass_s (L_pass_f S n) n
theorem M_pass_28 {M : MS} : ∀ n, (M_pass_f M n).1 28 = M.1 28 := by
  intro n
  induction n with
  | zero => rfl
  | succ n ih =>
    show (M_passes (M_pass_f M n)).1 28 = _
    rw [← ih]
    unfold M_passes
    dsimp only
    rw [M_pf_k (by omega) (by decide) (by decide) (by decide) (by decide)]
    exact ite_k (by rw [M_e_k (by omega), mset_k (by decide)]) (by rw [mset_k (by decide)])
theorem M_pass_29 {M : MS} : ∀ n, (M_pass_f M n).1 29 = M.1 29 := by
  intro n
  induction n with
  | zero => rfl
  | succ n ih =>
    show (M_passes (M_pass_f M n)).1 29 = _
    rw [← ih]
    unfold M_passes
    dsimp only
    rw [M_pf_k (by omega) (by decide) (by decide) (by decide) (by decide)]
    exact ite_k (by rw [M_e_k (by omega), mset_k (by decide)]) (by rw [mset_k (by decide)])
theorem L_pass_eq {M : MS} {L : LwS} {np nv t : Nat} (h : LRR M L np nv) (hI : MI M np nv t) : ∀ n, LRR (M_pass_f M n) (L_pass_f L n) np nv := by
  intro n
  induction n with
  | zero => exact h
  | succ n ih => exact L_minute_eq ih (MI_pass_f hI)
theorem ft3a {n : Nat} (hR : RR Z S M L t) (ht : t ≤ 100) (h1n : 1 ≤ n) (hn : n ≤ 1440) (h : poE cvi (pvx (X_pass Z S (nI n)).1 (.int (X_pass Z S (nI n)).2.1) (xW T z Z (X_pass Z S (nI n)).2.2)) (px (X_pass Z S (nI n)).1 (xW T z Z S)) v w1) : FIN T z Z t (L_pass_f L n) (L_pass_f L n 6 0) v w1 := by
  have en : (nI n).toNatClampNeg = n := nI_clamp (by omega)
  have hO := hR.2.2.1
  obtain ⟨a, ea, -, la⟩ := rng_nI (a := 0) (b := 200000) hR.1.1.2.2.2.2.2.2.1
  have ta : a ≤ 1440 * t := by
    rw [ea, nI_toInt (by omega)] at hO
    omega
  have h1 := do_i (st_pass hR.1 (by omega) (nI n)) h
  unfold M_pass at h1
  rw [if_pos (iI_1_3000.mpr (by rw [nI_toInt (by omega)]; omega)), ea, nI_add, if_pos (show nI (a + n) ≤ 200000 from nI_le (b := 200000) (by omega) (by decide)), en] at h1
  dsimp only at h1
  have hp := (pass_f (RXA_29 (j := 0) (v := 0) hR.1) (a := a) (by rw [mset_k (by decide)]; exact ea) n (by omega)).2
  have hL := L_pass_eq (LRR_29 (j := 0) (v := 0) hR.l) (MI_set hR.i (k := 29) (by decide) rfl) n
  rw [← hL.g.1] at h1
  refine fin_0 h1 (by rw [M_pass_29, mset_s]) hL ⟨?_, fun g hg => ?_, KI_pass (KI_t hR.2.2.2.2 (fun k a b => mset_k (by omega))) (MI_set hR.i (k := 29) (by decide) rfl) _⟩
  · rw [hp, nI_toInt (by omega)]
    omega
  · rw [M_pass_28, mset_k (by decide)]
    have := hR.2.2.2.1 g hg
    omega
theorem ft3b {c : Int32} (hR : RR Z S M L t) (ht : t < 512) (hx : ¬ (1 ≤ c.toInt ∧ c.toInt ≤ 3000)) (h : poE cvi (pvx (X_pass Z S c).1 (.int (X_pass Z S c).2.1) (xW T z Z (X_pass Z S c).2.2)) (px (X_pass Z S c).1 (xW T z Z S)) v w1) : FIN T z Z t L (-20000000) v w1 := by
  have h1 := do_i (st_pass hR.1 ht c) h
  unfold M_pass at h1
  rw [if_neg (fun z => hx (iI_1_3000.mp z))] at h1
  exact fin_1 h1 mset_s (LRR_29 hR.l) (OB_29 hR.2.2)
end
