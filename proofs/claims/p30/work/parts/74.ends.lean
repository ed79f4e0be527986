/-! ===== the end of a day, law and reference ===== -/
theorem lset_comm {S : LwS} {k i k' i' : Nat} {u v : Int32} (h : ¬ (k = k' ∧ i = i')) : lset (lset S k i u) k' i' v = lset (lset S k' i' v) k i u := by
  funext a b
  unfold lset
  by_cases c1 : a = k' ∧ b = i'
  · rw [if_pos c1, if_neg (fun z => h ⟨z.1.symm.trans c1.1, z.2.symm.trans c1.2⟩), if_pos c1]
  · rw [if_neg c1, if_neg c1]
theorem lset_over {S : LwS} {k i : Nat} {u v : Int32} : lset (lset S k i u) k i v = lset S k i v := by
  funext a b
  unfold lset
  by_cases c1 : a = k ∧ b = i
  · rw [if_pos c1, if_pos c1]
  · rw [if_neg c1, if_neg c1, if_neg c1]
theorem lset_id {S : LwS} {k i : Nat} : lset S k i (S k i) = S := by
  funext a b
  unfold lset
  by_cases c1 : a = k ∧ b = i
  · rw [if_pos c1, c1.1, c1.2]
  · rw [if_neg c1]
theorem lmset_id {M : MS} {k i : Nat} : mset M k i (M.1 k i) = M := by
  unfold mset
  refine Prod.ext ?_ rfl
  funext a b
  show (if a = k ∧ b = i then M.1 k i else M.1 a b) = M.1 a b
  by_cases c1 : a = k ∧ b = i
  · rw [if_pos c1, c1.1, c1.2]
  · rw [if_neg c1]
theorem lmin_sw {a b : Int32} : (if a ≤ b then a else b) = (if b ≤ a then b else a) := by
  by_cases c1 : a ≤ b
  · by_cases c2 : b ≤ a
    · rw [if_pos c1, if_pos c2]
      exact Int32.toInt_inj.mp (by rw [Int32.le_iff_toInt_le] at c1 c2; omega)
    · rw [if_pos c1, if_neg c2]
  · rw [if_neg c1, if_pos (by rw [Int32.le_iff_toInt_le] at c1 ⊢; omega)]
theorem lpos_sw {a : Int32} : (if a ≤ 0 then 0 else a) = (if 0 ≤ a then a else 0) := by
  by_cases c1 : a ≤ 0
  · by_cases c2 : 0 ≤ a
    · rw [if_pos c1, if_pos c2]
      exact Int32.toInt_inj.mp (by rw [Int32.le_iff_toInt_le] at c1 c2; omega)
    · rw [if_pos c1, if_neg c2]
  · rw [if_neg c1, if_pos (by rw [Int32.le_iff_toInt_le] at c1 ⊢; omega)]
theorem cr12 {x : Int32} (h : x = 0 ∨ x = 1 ∨ x = 2) : (if x = 1 then 2 else x) = 0 ∨ (if x = 1 then 2 else x) = 1 ∨ (if x = 1 then 2 else x) = 2 := by
  rcases h with rfl | rfl | rfl <;> decide
theorem crk {M : MS} {S : LwS} {p : Nat} (h : LRp M S p) : M.1 11 p = 0 ∨ M.1 11 p = 1 ∨ M.1 11 p = 2 := by
  obtain ⟨k, c, o, l, h1, h2, h3, h4, h5, e1, e2, -⟩ := h
  rcases (show c = 0 ∨ c = 1 ∨ c = 2 by omega) with rfl | rfl | rfl
  · exact Or.inl e2
  · exact Or.inr (Or.inl e2)
  · exact Or.inr (Or.inr e2)
theorem LRR_cr {M : MS} {S : LwS} {np nv p : Nat} {y y0 : Int32} (h : LRR M S np nv) (hp : p < np) (hy : y = 0 ∨ y = 1 ∨ y = 2) (h0 : y0 = M.1 11 p) : LRR (mset M 11 p y) (lset S 1 p (S 1 p + 4 * (y - y0))) np nv := by
  obtain ⟨x, hx, rfl⟩ : ∃ x : Nat, x ≤ 2 ∧ y = nI x := by
    rcases hy with rfl | rfl | rfl
    · exact ⟨0, by omega, rfl⟩
    · exact ⟨1, by omega, rfl⟩
    · exact ⟨2, by omega, rfl⟩
  exact LRR_fl (k := 11) (m := 4) (x := x) h hp (Or.inl ⟨rfl, rfl, hx⟩) (by rw [h0]; rfl)
set_option maxHeartbeats 1000000 in
theorem L_freeze_eq {M : MS} {S : LwS} {np nv t p : Nat} (h : LRR M S np nv) (hp : p < np) (hc : ¬ M.1 1 0 ≤ 0) (hk : ¬ M.1 4 p = 2) : LRR (M_freezes M (nI p)) (L_ends_s S p) np nv := by
  have hn := h.1
  have ep : (nI p).toNatClampNeg = p := nI_clamp (by omega)
  have hP := h.p hp
  have g1 : S 6 1 = M.1 1 0 := h.g.2.1
  obtain ⟨x4, e4⟩ : ∃ z : Int32, z = S 1 p / 4 - S 1 p / 4 / 4 * 4 := ⟨_, rfl⟩
  obtain ⟨x65, e65⟩ : ∃ z : Int32, z = if 2 * S 6 1 ≤ S 0 (16 + p) then 2 * S 6 1 else S 0 (16 + p) := ⟨_, rfl⟩
  obtain ⟨S67, e67⟩ : ∃ z : LwS, z = lset S 0 (16 + p) (S 0 (16 + p) - x65) := ⟨_, rfl⟩
  obtain ⟨S68, e68⟩ : ∃ z : LwS, z = lset S67 0 (8 + p) (S67 0 (8 + p) + x65) := ⟨_, rfl⟩
  obtain ⟨x69, e69⟩ : ∃ z : Int32, z = if S68 1 p - S68 1 p / 4 * 4 = 1 then 2 else 0 := ⟨_, rfl⟩
  obtain ⟨x71, e71⟩ : ∃ z : Int32, z = 400 * S 6 1 / (((S68 0 p + S68 0 (8 + p)) + 4 * S68 0 (24 + p)) + 50) - x69 := ⟨_, rfl⟩
  obtain ⟨x72, e72⟩ : ∃ z : Int32, z = if S68 0 (16 + p) = 0 then (if x71 ≤ 0 then 0 else x71) else 0 := ⟨_, rfl⟩
  obtain ⟨S74, e74⟩ : ∃ z : LwS, z = lset S68 0 p (S68 0 p + x72) := ⟨_, rfl⟩
  obtain ⟨x75, e75⟩ : ∃ z : Int32, z = if S 6 1 ≤ 39 then (if S 6 1 ≤ 9 then x4 else (if x4 = 2 then 1 else 0)) else (if x4 = 0 then 1 else x4) := ⟨_, rfl⟩
  have eL : L_ends_s S p = lset S74 1 p (S74 1 p + 4 * (x75 - x4)) := by
    unfold L_ends_s
    dsimp only
    rw [if_neg (by rw [g1]; exact hc), if_neg (by rw [hP.kind]; exact fun z => hk ((kind_2 hP).1.mp z))]
    subst e75 e74 e72 e71 e69 e68 e67 e65 e4
    rfl
  rw [eL]
  obtain ⟨y1, f1⟩ : ∃ z : Int32, z = if M.1 9 p ≤ 2 * M.1 1 0 then M.1 9 p else 2 * M.1 1 0 := ⟨_, rfl⟩
  obtain ⟨M3, f3⟩ : ∃ z : MS, z = mset M 9 p (M.1 9 p - y1) := ⟨_, rfl⟩
  obtain ⟨M4, f4⟩ : ∃ z : MS, z = mset M3 8 p (M3.1 8 p + y1) := ⟨_, rfl⟩
  obtain ⟨M5, f5⟩ : ∃ z : MS, z = if M4.1 9 p = 0 then mset M4 7 p (M4.1 7 p + (if 0 ≤ 400 * M4.1 1 0 / (((M4.1 7 p + M4.1 8 p) + 4 * M4.1 10 p) + 50) - (if M4.1 4 p = 1 then 2 else 0) then 400 * M4.1 1 0 / (((M4.1 7 p + M4.1 8 p) + 4 * M4.1 10 p) + 50) - (if M4.1 4 p = 1 then 2 else 0) else 0)) else M4 := ⟨_, rfl⟩
  have eM : M_freezes M (nI p) = if M5.1 1 0 < 40 then (if M5.1 1 0 < 10 then M5 else mset M5 11 p (bI (M5.1 11 p = 2))) else mset M5 11 p (if M5.1 11 p = 0 then 1 else M5.1 11 p) := by
    unfold M_freezes
    dsimp only
    rw [ep]
    subst f5 f4 f3 f1
    rfl
  rw [eM]
  have hx : x65 = y1 := by rw [e65, f1, g1, (h.q hp).2.2.2.2.1, lmin_sw]
  have h3 : LRR M3 S67 np nv := by
    rw [f3, e67, (h.q hp).2.2.2.2.1, hx]
    exact LRR_f h hp (Or.inr (Or.inr (Or.inl ⟨rfl, rfl⟩)))
  have h4 : LRR M4 S68 np nv := by
    rw [f4, e68, (h3.q hp).2.2.2.1, hx]
    exact LRR_f h3 hp (Or.inr (Or.inl ⟨rfl, rfl⟩))
  have g4 : M4.1 1 0 = S 6 1 := by rw [f4, f3, mset_k (by decide), mset_k (by decide), g1]
  have h5 : LRR M5 S74 np nv := by
    have hgr : 400 * M4.1 1 0 / (((M4.1 7 p + M4.1 8 p) + 4 * M4.1 10 p) + 50) - (if M4.1 4 p = 1 then 2 else 0) = x71 := by
      rw [e71, e69, (h4.p hp).kind, (h4.q hp).2.2.1, (h4.q hp).2.2.2.1, (h4.q hp).2.2.2.2.2.1, g4]
    rw [f5, e74, e72, hgr, (h4.q hp).2.2.2.2.1, (h4.q hp).2.2.1]
    by_cases c : M4.1 9 p = 0
    · rw [if_pos c, if_pos c, lpos_sw]
      exact LRR_f h4 hp (Or.inl ⟨rfl, rfl⟩)
    · rw [if_neg c, if_neg c, Int32.add_zero]
      have := LRR_f (k := 7) (ix := p) (v := M4.1 7 p) h4 hp (Or.inl ⟨rfl, rfl⟩)
      rw [lmset_id] at this
      exact this
  have g5 : M5.1 1 0 = S 6 1 := by
    rw [f5]
    split
    · rw [mset_k (by decide), g4]
    · exact g4
  have e11 : M5.1 11 p = M.1 11 p := by
    have z4 : M4.1 11 p = M.1 11 p := by rw [f4, f3, mset_k (by decide), mset_k (by decide)]
    rw [f5]
    split
    · rw [mset_k (by decide), z4]
    · exact z4
  have ex4 : x4 = M5.1 11 p := by rw [e4, hP.crack, e11]
  have hcr := crk (h5.p hp)
  rw [g5, e75]
  have l1 : S 6 1 ≤ 39 ↔ S 6 1 < 40 := by
    rw [Int32.le_iff_toInt_le, Int32.lt_iff_toInt_lt, show (39 : Int32).toInt = 39 by decide, show (40 : Int32).toInt = 40 by decide]
    omega
  have l2 : S 6 1 ≤ 9 ↔ S 6 1 < 10 := by
    rw [Int32.le_iff_toInt_le, Int32.lt_iff_toInt_lt, show (9 : Int32).toInt = 9 by decide, show (10 : Int32).toInt = 10 by decide]
    omega
  by_cases c1 : S 6 1 < 40
  · rw [if_pos c1, if_pos (l1.mpr c1)]
    by_cases c2 : S 6 1 < 10
    · rw [if_pos c2, if_pos (l2.mpr c2)]
      have := LRR_cr (y := x4) h5 hp (by rw [ex4]; exact hcr) ex4
      rw [ex4, lmset_id] at this
      rw [ex4]
      exact this
    · rw [if_neg c2, if_neg (fun z => c2 (l2.mp z))]
      have ey : (if x4 = 2 then (1 : Int32) else 0) = bI (M5.1 11 p = 2) := by rw [ex4]; rfl
      rw [ey]
      exact LRR_cr h5 hp (by unfold bI; split <;> simp) ex4
  · rw [if_neg c1, if_neg (fun z => c1 (l1.mp z)), ex4]
    refine LRR_cr h5 hp ?_ rfl
    split
    · exact Or.inr (Or.inl rfl)
    · exact hcr
set_option maxHeartbeats 1000000 in
theorem L_thaw_go {M : MS} {S : LwS} {np nv t p : Nat} (h : LRR M S np nv) (hI : MI M np nv t) (hp : p < np) (hc : M.1 1 0 < 0) {x4 x9 x10 x14 x17 x19 x23 x26 : Int32} {S12 S13 S16 S18 S21 S22 S25 : LwS} (e4 : x4 = S 1 p / 4 - S 1 p / 4 / 4 * 4) (e9 : x9 = (-6) * S 6 1) (e10 : x10 = if x9 ≤ S 0 (24 + p) then x9 else S 0 (24 + p)) (e12 : S12 = lset S 0 (24 + p) (S 0 (24 + p) - x10)) (e13 : S13 = lset S12 0 (32 + p) (S12 0 (32 + p) - 0)) (e14 : x14 = if x9 - x10 ≤ S13 0 (8 + p) then x9 - x10 else S13 0 (8 + p)) (e16 : S16 = lset S13 0 (8 + p) (S13 0 (8 + p) - x14)) (e17 : x17 = x9 - x10 - x14) (e18 : S18 = lset S16 0 (32 + p) (S16 0 (32 + p) - x14 * 1)) (e19 : x19 = if x17 ≤ S18 0 (0 + p) then x17 else S18 0 (0 + p)) (e21 : S21 = lset S18 0 (0 + p) (S18 0 (0 + p) - x19)) (e22 : S22 = lset S21 0 (32 + p) (S21 0 (32 + p) - x19 * 2)) (e23 : x23 = if 0 ≤ S22 0 (32 + p) then S22 0 (32 + p) else 0) (e25 : S25 = lset S22 0 (32 + p) x23) (e26 : x26 = if x4 = 1 then 2 else x4) : LRR (M_thaws M (nI p)) (lset S25 1 p (S25 1 p + 4 * (x26 - x4))) np nv := by
  have hn := h.1
  have ep : (nI p).toNatClampNeg = p := nI_clamp (by omega)
  have hP := h.p hp
  have g1 : S 6 1 = M.1 1 0 := h.g.2.1
  rw [Nat.zero_add] at e19 e21
  obtain ⟨b, wh, wa, sn, k1, k2, k3, k4, q1, q2, q3, q4⟩ := fz_data hI hp
  obtain ⟨r1, r2⟩ := hI.2.2.2.2.2.1
  rw [Int32.lt_iff_toInt_lt, Int32.toInt_zero] at hc
  obtain ⟨cc, ecc, hcc0, hcc⟩ : ∃ cc : Nat, (-6) * M.1 1 0 = nI (6 * cc) ∧ 1 ≤ cc ∧ cc ≤ 20 := by
    obtain ⟨cc, ecc, z1, z2⟩ := rng_nI (x := -(M.1 1 0)) (a := 1) (b := 20) (by
      have e : (-(M.1 1 0)).toInt = -(M.1 1 0).toInt := by
        rw [Int32.toInt_neg, Int.bmod_eq_of_le (by omega) (by omega)]
      unfold rng
      rw [e]
      omega)
    refine ⟨cc, ?_, z1, z2⟩
    rw [← nI_mul, ← ecc]
    show (-6) * M.1 1 0 = 6 * -(M.1 1 0)
    grind
  -- the reference's
  obtain ⟨y1, f1⟩ : ∃ z : Int32, z = if M.1 10 p ≤ (-6) * M.1 1 0 then M.1 10 p else (-6) * M.1 1 0 := ⟨_, rfl⟩
  obtain ⟨M3, f3⟩ : ∃ z : MS, z = mset M 10 p (M.1 10 p - y1) := ⟨_, rfl⟩
  obtain ⟨y4, f4⟩ : ∃ z : Int32, z = if M3.1 8 p ≤ (-6) * M.1 1 0 - y1 then M3.1 8 p else (-6) * M.1 1 0 - y1 := ⟨_, rfl⟩
  obtain ⟨M6, f6⟩ : ∃ z : MS, z = mset M3 8 p (M3.1 8 p - y4) := ⟨_, rfl⟩
  obtain ⟨y7, f7⟩ : ∃ z : Int32, z = if M6.1 7 p ≤ (-6) * M.1 1 0 - y1 - y4 then M6.1 7 p else (-6) * M.1 1 0 - y1 - y4 := ⟨_, rfl⟩
  obtain ⟨M9, f9⟩ : ∃ z : MS, z = mset M6 7 p (M6.1 7 p - y7) := ⟨_, rfl⟩
  obtain ⟨z1, g1'⟩ : ∃ z : UInt64, z = FP.dsub (M9.2 p).1 (FP.dadd (FP.i2d y7) (FP.dmul (4602678819172646912 : UInt64) (FP.i2d y4))) := ⟨_, rfl⟩
  have hz1 : vf_n64 z1 := by rw [g1']; exact nn_less (M9.2 p).2 _ _
  have eM' : ∀ q : Int32, q.toNatClampNeg = p → M_thaws M q = if 0 ≤ Op.cmpValue (FP.dcmp z1 FP.dconst0) CmpOp.g then mset (mkset M9 p ⟨z1, hz1⟩) 11 p (if (mkset M9 p ⟨z1, hz1⟩).1 11 p = 1 then 2 else (mkset M9 p ⟨z1, hz1⟩).1 11 p) else mset (mkset M9 p ⟨FP.dconst0, nn_0⟩) 11 p (if (mkset M9 p ⟨FP.dconst0, nn_0⟩).1 11 p = 1 then 2 else (mkset M9 p ⟨FP.dconst0, nn_0⟩).1 11 p) := by
    intro q hq
    subst hq
    unfold M_thaws
    dsimp only
    subst g1' f9 f7 f6 f4 f3 f1
    rfl
  rw [eM' _ ep]
  -- the same numbers
  have i1 : x10 = y1 := by rw [e10, f1, e9, g1, (h.q hp).2.2.2.2.2.1, lmin_sw]
  have h3 : LRR M3 S12 np nv := by
    rw [f3, e12, (h.q hp).2.2.2.2.2.1, i1]
    exact LRR_f h hp (Or.inr (Or.inr (Or.inr ⟨rfl, rfl⟩)))
  have w13 : S13 0 (8 + p) = M3.1 8 p := by rw [e13, lset_n (by omega)]; exact (h3.q hp).2.2.2.1
  have i4 : x14 = y4 := by rw [e14, f4, w13, e9, i1, g1, lmin_sw]
  obtain ⟨T6, t6⟩ : ∃ z : LwS, z = lset S12 0 (8 + p) (M3.1 8 p - y4) := ⟨_, rfl⟩
  have h6 : LRR M6 T6 np nv := by
    rw [f6, t6]
    exact LRR_f h3 hp (Or.inr (Or.inl ⟨rfl, rfl⟩))
  have u16 : S16 = lset T6 0 (32 + p) (S12 0 (32 + p) - 0) := by rw [e16, w13, i4, e13, lset_comm (by omega), t6]
  have u18 : S18 = lset T6 0 (32 + p) (S12 0 (32 + p) - 0 - y4 * 1) := by rw [e18, u16, lset_over, lset_s, i4]
  have w18 : S18 0 p = M6.1 7 p := by rw [u18, lset_n (by omega)]; exact (h6.q hp).2.2.1
  have i7 : x19 = y7 := by rw [e19, f7, w18, e17, e9, i1, i4, g1, lmin_sw]
  obtain ⟨T9, t9⟩ : ∃ z : LwS, z = lset T6 0 p (M6.1 7 p - y7) := ⟨_, rfl⟩
  have h9 : LRR M9 T9 np nv := by
    rw [f9, t9]
    exact LRR_f h6 hp (Or.inl ⟨rfl, rfl⟩)
  have u21 : S21 = lset T9 0 (32 + p) (S12 0 (32 + p) - 0 - y4 * 1) := by rw [e21, w18, i7, u18, lset_comm (by omega), t9]
  have u22 : S22 = lset T9 0 (32 + p) (S12 0 (32 + p) - 0 - y4 * 1 - y7 * 2) := by rw [e22, u21, lset_over, lset_s, i7]
  have u25 : S25 = lset T9 0 (32 + p) x23 := by rw [e25, u22, lset_over]
  -- the known thickness
  obtain ⟨a, ha⟩ : ∃ a : Int32, a = S12 0 (32 + p) := ⟨_, rfl⟩
  have hkn : (M9.2 p).1 = hD a := by
    rw [ha, show M9.2 = M3.2 by rw [f9, f6]; rfl]
    exact (h3.q hp).2.2.2.2.2.2.1
  have hra : rng a 0 200000 := by rw [ha]; exact (h3.q hp).2.2.2.2.2.2.2.1
  obtain ⟨n1, l1, l2⟩ : ∃ n : Nat, y1 = nI n ∧ n ≤ 6 * cc := by
    rw [f1, ecc, k4, min_nI (by omega) (by omega)]
    exact ⟨_, rfl, Nat.min_le_right _ _⟩
  have w3 : M3.1 8 p = nI wh := by rw [f3, mset_k (by decide)]; exact k2
  obtain ⟨n4, l3, l4⟩ : ∃ n : Nat, y4 = nI n ∧ n ≤ 120 := by
    rw [f4, w3, ecc, l1, nI_sub' l2, min_nI (by omega) (by omega)]
    exact ⟨_, rfl, by have := Nat.min_le_right wh (6 * cc - n1); omega⟩
  have l5 : n4 ≤ 6 * cc - n1 := by
    have e : nI n4 = nI (min wh (6 * cc - n1)) := by rw [← l3, f4, w3, ecc, l1, nI_sub' l2, min_nI (by omega) (by omega)]
    have := (nI_eq (by omega) (by have := Nat.min_le_right wh (6 * cc - n1); omega)).mp e
    have := Nat.min_le_right wh (6 * cc - n1)
    omega
  have w6 : M6.1 7 p = nI b := by rw [f6, f3, mset_k (by decide), mset_k (by decide)]; exact k1
  obtain ⟨n7, l6, l7⟩ : ∃ n : Nat, y7 = nI n ∧ n ≤ 120 := by
    rw [f7, w6, ecc, l1, l3, nI_sub' l2, nI_sub' l5, min_nI (by omega) (by omega)]
    exact ⟨_, rfl, by have := Nat.min_le_right b (6 * cc - n1 - n4); omega⟩
  obtain ⟨na, la, -, lb⟩ := rng_nI (a := 0) (b := 200000) hra
  have i22 : S22 0 (32 + p) = a - nI (n4 + 2 * n7) := by
    rw [u22, lset_s, ← ha, l3, l6, ← nI_add, ← nI_two]
    grind
  have ht : (hD a) = hD a := rfl
  have t7 : y7.toInt = n7 := by rw [l6, nI_toInt (by omega)]
  have t4 : y4.toInt = n4 := by rw [l3, nI_toInt (by omega)]
  have ta : a.toInt = na := by rw [la, nI_toInt (by omega)]
  have hless := hD_less (a := a) (b := y7) (w := y4) (by rw [t7, t4, ta]; omega)
  rw [t7, t4, ta] at hless
  have ts : (a - nI (n4 + 2 * n7)).toInt = (na : Int) - (n4 + 2 * n7 : Nat) := by
    rw [Int32.toInt_sub, ta, nI_toInt (by omega), Int.bmod_eq_of_le (by omega) (by omega)]
  have e23' : x23 = if 0 ≤ a - nI (n4 + 2 * n7) then a - nI (n4 + 2 * n7) else 0 := by rw [e23, i22]
  have hz : 0 ≤ Op.cmpValue (FP.dcmp z1 FP.dconst0) CmpOp.g ↔ n4 + 2 * n7 ≤ na := by
    rw [g1', hkn]
    refine hless.trans ?_
    omega
  have ex4 : x4 = M9.1 11 p := by
    rw [e4, hP.crack, f9, f6, f3, mset_k (by decide), mset_k (by decide), mset_k (by decide)]
  have hcr : M9.1 11 p = 0 ∨ M9.1 11 p = 1 ∨ M9.1 11 p = 2 := crk (h9.p hp)
  rw [u25, e26, ex4]
  by_cases c : n4 + 2 * n7 ≤ na
  · rw [if_pos (hz.mpr c)]
    have hx : x23 = nI (na - (n4 + 2 * n7)) := by
      rw [e23', la, nI_sub' c, if_pos (nI_pos' (by omega))]
    have hk := LRR_kn (c := x23) (x := ⟨z1, hz1⟩) h9 hp (by
      show z1 = hD x23
      rw [g1', hkn]
      refine hD_left ?_ ?_ ?_ ?_
      · rw [t7]; omega
      · rw [t4]; omega
      · rw [hx, nI_toInt (by omega), t7, t4, ta]; omega
      · rw [hx, nI_toInt (by omega)]; omega) (by rw [hx]; unfold rng; rw [nI_toInt (by omega)]; omega)
    exact LRR_cr hk hp (cr12 hcr) rfl
  · rw [if_neg (fun z => c (hz.mp z))]
    have hx : x23 = 0 := by
      rw [e23', if_neg]
      rw [Int32.le_iff_toInt_le, ts, Int32.toInt_zero]
      omega
    have hk := LRR_kn (c := x23) (x := ⟨FP.dconst0, nn_0⟩) h9 hp (by rw [hx]; exact hD_0.symm) (by rw [hx]; unfold rng; decide)
    exact LRR_cr hk hp (cr12 hcr) rfl
theorem L_ends_s_eq {M : MS} {S : LwS} {np nv t p : Nat} (h : LRR M S np nv) (hI : MI M np nv t) (hp : p < np) : LRR (M_ends_s M p) (L_ends_s S p) np nv := by
  have hn := h.1
  have ep : (nI p).toNatClampNeg = p := nI_clamp (by omega)
  have hP := h.p hp
  have g1 : S 6 1 = M.1 1 0 := h.g.2.1
  have hid : LRR M (lset S 1 p (S 1 p + 4 * (S 1 p / 4 - S 1 p / 4 / 4 * 4 - (S 1 p / 4 - S 1 p / 4 / 4 * 4)))) np nv := by
    rw [Int32.sub_self, Int32.mul_zero, Int32.add_zero, lset_id]
    exact h
  unfold M_ends_s
  dsimp only
  by_cases c1 : M.1 1 0 ≤ 0
  · rw [if_pos c1]
    by_cases c2 : 0 ≤ M.1 1 0
    · rw [if_pos c2]
      unfold L_ends_s
      dsimp only
      rw [if_pos (by rw [g1]; exact c1), if_pos (by rw [g1]; exact c2)]
      exact hid
    · rw [if_neg c2]
      have hc : M.1 1 0 < 0 := i32_nle c2
      unfold L_ends_s
      dsimp only
      rw [if_pos (by rw [g1]; exact c1), if_neg (by rw [g1]; exact c2)]
      exact L_thaw_go h hI hp hc rfl rfl rfl rfl rfl rfl rfl rfl rfl rfl rfl rfl rfl rfl rfl
  · rw [if_neg c1]
    by_cases c3 : M.1 4 p = 2
    · have c2 : 0 ≤ M.1 1 0 := by
        rw [Int32.le_iff_toInt_le] at c1 ⊢
        omega
      rw [if_neg (show ¬ M_isWater M (nI p) by unfold M_isWater; rw [ep]; exact fun z => z c3), if_pos c2]
      unfold L_ends_s
      dsimp only
      rw [if_neg (by rw [g1]; exact c1), if_pos (by rw [hP.kind]; exact (kind_2 hP).1.mpr c3), if_pos (by rw [g1]; exact c2)]
      exact hid
    · rw [if_pos (show M_isWater M (nI p) by unfold M_isWater; rw [ep]; exact c3)]
      exact L_freeze_eq (t := t) h hp c1 c3
theorem L_ends_f_eq {M : MS} {S : LwS} {np nv t : Nat} (h : LRR M S np nv) (hI : MI M np nv t) : ∀ n, n ≤ np → LRR (M_ends_f M n) (L_ends_f S n) np nv := by
  intro n
  induction n with
  | zero => intro _; exact h
  | succ n ih => intro hn; exact L_ends_s_eq (ih (by omega)) (MI_ends_f hI (by omega)) (by omega)
theorem L_ends_eq {M : MS} {S : LwS} {np nv t : Nat} (h : LRR M S np nv) (hI : MI M np nv t) : LRR (M_ends M) (L_ends S) np nv := by
  have hn := h.1
  unfold M_ends L_ends
  dsimp only
  rw [hI.1.1, h.g.2.2.2.1, nI_clamp (by omega)]
  exact L_ends_f_eq h hI np (Nat.le_refl _)
/-- what a day divides by isn't 0 -/
theorem L_den_ne {M : MS} {S : LwS} {np nv t p : Nat} (h : LRR M S np nv) (hI : MI M np nv t) (hp : p < np) : ¬ L_den S p = 0 := by
  obtain ⟨b, wh, wa, sn, k1, k2, k3, k4, q1, q2, q3, q4⟩ := fz_data hI hp
  obtain ⟨r1, r2⟩ := hI.2.2.2.2.2.1
  obtain ⟨b1, b2, b3, b4, b5, b6, b7, b8, b9, b10⟩ := h.q hp
  have g1 : S 6 1 = M.1 1 0 := h.g.2.1
  have hn := h.1
  unfold L_den
  dsimp only
  rw [lset_n (show ¬ (0 = 0 ∧ p = 8 + p) by omega), lset_n (show ¬ (0 = 0 ∧ p = 16 + p) by omega), lset_s, lset_n (show ¬ (0 = 0 ∧ 8 + p = 16 + p) by omega), lset_n (show ¬ (0 = 0 ∧ 24 + p = 8 + p) by omega), lset_n (show ¬ (0 = 0 ∧ 24 + p = 16 + p) by omega), b3, b4, b5, b6, g1, k1, k2, k3, k4]
  have t2 : (2 * M.1 1 0).toInt = 2 * (M.1 1 0).toInt := by
    rw [Int32.toInt_mul, show (2 : Int32).toInt = 2 by decide, Int.bmod_eq_of_le (by omega) (by omega)]
  have hx : -40 ≤ (if 2 * M.1 1 0 ≤ nI wa then 2 * M.1 1 0 else nI wa).toInt ∧ (if 2 * M.1 1 0 ≤ nI wa then 2 * M.1 1 0 else nI wa).toInt ≤ 60000 := by
    split
    · rw [t2]; omega
    · rw [nI_toInt (by omega)]; omega
  generalize (if 2 * M.1 1 0 ≤ nI wa then 2 * M.1 1 0 else nI wa) = x at hx ⊢
  intro hz
  have t1 : (nI wh + x).toInt = wh + x.toInt := by
    rw [Int32.toInt_add, nI_toInt (by omega), Int.bmod_eq_of_le (by omega) (by omega)]
  have t3 : (nI b + (nI wh + x)).toInt = b + (wh + x.toInt) := by
    rw [Int32.toInt_add, nI_toInt (by omega), t1, Int.bmod_eq_of_le (by omega) (by omega)]
  have t4 : (4 * nI sn : Int32).toInt = 4 * sn := by
    rw [show (4 : Int32) = nI 4 from rfl, nI_mul, nI_toInt (by omega)]
    omega
  have t5 : (nI b + (nI wh + x) + 4 * nI sn).toInt = b + (wh + x.toInt) + 4 * sn := by
    rw [Int32.toInt_add, t3, t4, Int.bmod_eq_of_le (by omega) (by omega)]
  have t6 : (nI b + (nI wh + x) + 4 * nI sn + 50).toInt = b + (wh + x.toInt) + 4 * sn + 50 := by
    rw [Int32.toInt_add, t5, show (50 : Int32).toInt = 50 by decide, Int.bmod_eq_of_le (by omega) (by omega)]
  have := congrArg Int32.toInt hz
  rw [t6, Int32.toInt_zero] at this
  omega
