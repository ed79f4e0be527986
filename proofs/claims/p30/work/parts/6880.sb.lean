/-! ===== a vehicle comes onto a piece ===== -/
theorem come_eq {Z : XZ} {S : XS} {M : MS} {t j : Nat} (h : RXN Z S M t) (hB : BI M (Z.N 1) t) (hI : MI M (Z.N 0) (Z.N 1) t) (hj : j < Z.N 1) (hw : M.1 20 j = 2) : RXN Z (X_comeOnto Z S j) (M_comes M (nI j)) t ∧ BI (M_comes M (nI j)) (Z.N 1) t := by
  have hv := h.nv
  have hp := h.np
  have hcj : (nI j).toNatClampNeg = j := nI_clamp (by omega)
  have hwc : M.1 20 (nI j).toNatClampNeg = 2 := by rw [hcj]; exact hw
  obtain ⟨q, hq, eq⟩ := MI_next hI hj hwc
  have hcq : (nI q).toNatClampNeg = q := nI_clamp (by omega)
  have hsp := MI_spd hI hj hwc
  rw [eq] at hsp
  have ea := ahead_eq h hj eq hq
  have ev := h.v hj
  have e5 := ev.2.2.2.2.2.1
  have e4 := ev.2.2.2.2.1
  have hb01 := (hI.2.2.1 j hj).1
  have en : S.1 0 0 6 = M.1 0 0 := h.2.2.2.1
  have rn := h.2.2.2.2.2.2.1
  have hn1 : ¬ M.1 20 j = 1 := by rw [hw]; decide
  have hnq : (if M.1 22 j = 0 then M.1 21 j - 1 else M.1 21 j) = nI q := by
    have z := eq
    unfold M_nextPiece at z
    dsimp only at z
    rw [hcj] at z
    exact z
  obtain ⟨S2, hS2⟩ : ∃ S2 : XS, S2 = (if S.1 2 j 5 = 0 then xset S 2 j 4 (S.1 2 j 4 - 1) else S) := ⟨_, rfl⟩
  have h2 : RXN Z S2 (mset M 21 j (nI q)) t := by
    rw [hS2, e5]
    by_cases c : M.1 22 j = 0
    · rw [if_pos c] at hnq ⊢
      rw [e4, hnq]
      exact RXN_v (f := 4) h hj (by omega) (by omega) hn1 (fun z => absurd z (by decide))
    · rw [if_neg c] at hnq ⊢
      rw [mset_id hnq.symm]
      exact h
  have s2 : S2.1 0 0 6 = M.1 0 0 := by
    rw [hS2, ← en]
    split
    · rw [xset_kk (by decide)]
    · rfl
  have s25 : S2.1 2 j 5 = M.1 22 j := by
    rw [hS2, ← e5]
    split
    · rw [xset_f (by decide)]
    · rfl
  obtain ⟨S5, hS5⟩ : ∃ S5 : XS, S5 = X_noteComing Z S2 q (S2.1 2 j 5) (S2.1 0 0 6) := ⟨_, rfl⟩
  obtain ⟨M4, hM4⟩ : ∃ M4 : MS, M4 = mset (mset M 15 (2 * nI q + bI (¬ M.1 22 j = 0)).toNatClampNeg (M.1 0 0)) 21 j (nI q) := ⟨_, rfl⟩
  have h5 : RXN Z S5 M4 t := by
    rw [hS5, hM4, mset_comm (by decide)]
    unfold X_noteComing
    dsimp only
    rw [s25, s2, nI_two]
    by_cases c : M.1 22 j = 0
    · rw [if_pos c, bI_f (fun z => z c), Int32.add_zero, nI_clamp (by omega)]
      exact RXN_came0 h2 hq rn.1
    · rw [if_neg c, bI_t c, nI_1, nI_clamp (by omega)]
      exact RXN_came1 h2 hq rn.1
  have s5v : S5.1 2 = S2.1 2 := by
    rw [hS5]
    unfold X_noteComing
    dsimp only
    split <;> rw [xset_kk (by decide)]
  have s50 : S5.1 0 0 6 = M.1 0 0 := by
    rw [← s2, hS5]
    unfold X_noteComing
    dsimp only
    split <;> rw [xset_kk (by decide)]
  have m4 : ∀ k, k ≠ 15 → k ≠ 21 → M4.1 k = M.1 k := fun k a b => by rw [hM4, mset_k b, mset_k a]
  have m42 : M4.2 = M.2 := by rw [hM4]; rfl
  have m421 : M4.1 21 j = nI q := by rw [hM4, mset_s]
  have m4o : ∀ i, i ≠ j → M4.1 21 i = M.1 21 i := fun i hi => by rw [hM4, mset_j hi, mset_k (by decide)]
  have n4 : ¬ M4.1 20 j = 1 := by rw [m4 20 (by decide) (by decide)]; exact hn1
  have ep := h5.p hq
  have ev5 := h5.v hj
  have hcond : (S5.1 1 q 13 + X_weight Z S5 j ≤ X_bearsAs Z S5 q 0) ↔ (M_weight M (nI j) + M_weights M (nI q) ≤ M_bearsBy M (nI q) (M_thick M (nI q))) := by
    have a1 : X_weight Z S5 j = M_weight M (nI j) := by
      rw [RV.wt ev5, M_weight_j (by omega), m4 17 (by decide) (by decide), m4 24 (by decide) (by decide)]
    have a2 : S5.1 1 q 13 = M_weights M (nI q) := by
      rw [ep.w]
      unfold M_weights
      dsimp only
      rw [hI.1.2.2.1, nI_clamp (by omega)]
      refine wts_eq _ hv (fun i hi => ?_)
      unfold wOn
      by_cases c : i = j
      · subst c
        rw [if_neg n4, if_neg hn1]
      · rw [m4 20 (by decide) (by decide), m4o i c, m4 17 (by decide) (by decide), m4 24 (by decide) (by decide)]
    have a3 : X_bearsAs Z S5 q 0 = M_bearsBy M (nI q) (M_thick M (nI q)) := by
      rw [bears_eq ep (by omega), if_pos rfl]
      unfold M_bearsBy M_thick M_isWater
      dsimp only
      rw [m4 4 (by decide) (by decide), m4 11 (by decide) (by decide), m4 10 (by decide) (by decide), m4 7 (by decide) (by decide), m4 8 (by decide) (by decide)]
    rw [a1, a2, a3, Int32.add_comm]
  have hX : X_comeOnto Z S j = (if (S5.1 1 q 13 + (X_weight Z S5 j)) ≤ (X_bearsAs Z S5 q 0) then (X_takeOn Z (xset (xset S5 2 j 3 1) 2 j 6 (((xset S5 2 j 3 1).1 0 0 6) + (X_minutesOf Z (xset S5 2 j 3 1) q j))) q j) else (X_breakUp Z (xset S5 2 j 3 4) q)) := by
    unfold X_comeOnto
    simp only [ea, if_neg (Nat.succ_ne_zero q), Nat.add_sub_cancel, ← hS2, ← hS5]
  have hM : M_comes M (nI j) = (if ¬ (M_weight M (nI j) + M_weights M (nI q) ≤ M_bearsBy M (nI q) (M_thick M (nI q))) then (mset (mset (mset (mset M4 20 j 4) 23 j ((mset M4 20 j 4).1 0 0 + M_minutesOn (mset M4 20 j 4) (nI j) (nI q))) 12 q 0) 11 q (if M_isWater (mset (mset (mset M4 20 j 4) 23 j ((mset M4 20 j 4).1 0 0 + M_minutesOn (mset M4 20 j 4) (nI j) (nI q))) 12 q 0) (nI q) then 2 else ((mset (mset (mset M4 20 j 4) 23 j ((mset M4 20 j 4).1 0 0 + M_minutesOn (mset M4 20 j 4) (nI j) (nI q))) 12 q 0).1 11 q))) else (mset (mset M4 20 j 1) 23 j ((mset M4 20 j 1).1 0 0 + M_minutesOn (mset M4 20 j 1) (nI j) (nI q)))) := by
    unfold M_comes
    simp only [eq, hcq, hcj, ← hM4]
    by_cases c : M_weight M (nI j) + M_weights M (nI q) ≤ M_bearsBy M (nI q) (M_thick M (nI q))
    · rw [if_neg (fun z => z c), if_neg (fun z => z c), if_neg (fun z => z c)]
    · rw [if_pos c, if_pos c, if_pos c]
  have hBM : ∀ M' : MS, M'.1 24 = M4.1 24 → M'.1 27 = M4.1 27 → BI M' (Z.N 1) t := fun M' a b => BI_eq hB (a.trans (m4 24 (by decide) (by decide))) (b.trans (m4 27 (by decide) (by decide)))
  rw [hX, hM]
  by_cases c : M_weight M (nI j) + M_weights M (nI q) ≤ M_bearsBy M (nI q) (M_thick M (nI q))
  · rw [if_pos (hcond.mpr c), if_neg (fun z => z c)]
    have hov : (xset S5 2 j 3 1).1 0 0 6 + X_minutesOf Z (xset S5 2 j 3 1) q j = (mset M4 20 j 1).1 0 0 + M_minutesOn (mset M4 20 j 1) (nI j) (nI q) := by
      have hs7 : SPD (mset M4 20 j 1) (nI j) (nI q) := by
        rw [hM4]
        exact SPD_set (SPD_set (SPD_set hsp (by decide) (by decide) (by decide) rfl) (by decide) (by decide) (by decide) rfl) (by decide) (by decide) (by decide) rfl
      rw [min_eq (M := mset M4 20 j 1) (by omega) (by omega) ?_ ?_ ?_ ?_ ?_ hs7, xset_kk (by decide), mset_k (by decide), s50, m4 0 (by decide) (by decide)]
      · rw [xset_kk (by decide), mset_k (by decide)]; exact ep.1
      · rw [xset_kk (by decide), mset_k (by decide)]; exact ep.2.1
      · rw [xset_kk (by decide), mset_k (by decide)]; exact ep.2.2.1
      · rw [xset_kk (by decide), mset_k (by decide)]; exact ep.f 9 (by omega) (by omega)
      · rw [xset_f (by decide), mset_k (by decide)]; exact ev5.2.2.1
    rw [hov]
    generalize (mset M4 20 j 1).1 0 0 + M_minutesOn (mset M4 20 j 1) (nI j) (nI q) = ov
    obtain ⟨fb, hfb⟩ : ∃ fb : Nat, (fb = 12 ∧ M4.1 22 j = 0) ∨ (fb = 11 ∧ M4.1 22 j = 1) := by
      rw [m4 22 (by decide) (by decide)]
      rcases hb01 with c | c
      · exact ⟨12, Or.inl ⟨rfl, c⟩⟩
      · exact ⟨11, Or.inr ⟨rfl, c⟩⟩
    have hT : X_takeOn Z (xset (xset S5 2 j 3 1) 2 j 6 ov) q j = xset (xset (xset (xset S5 2 j 3 1) 2 j 6 ov) 1 q 13 (S5.1 1 q 13 + (M4.1 17 j + M4.1 24 j))) 1 q fb (S5.1 1 q fb + 1) := by
      have w : X_weight Z (xset (xset S5 2 j 3 1) 2 j 6 ov) j = M4.1 17 j + M4.1 24 j := by
        rw [← RV.wt (Z := Z) ev5]
        unfold X_weight
        dsimp only
        rw [xset_f (by decide), xset_f (by decide), xset_kk (by decide), xset_kk (by decide)]
        rfl
      unfold X_takeOn
      dsimp only
      rw [w, xset_kk (k' := 2) (by decide), xset_f (f' := 5) (by decide), xset_f (f' := 5) (by decide), xset_kk (k' := 1) (k := 2) (by decide), xset_kk (k' := 1) (k := 2) (by decide), ev5.2.2.2.2.2.1]
      rcases hfb with ⟨rfl, c⟩ | ⟨rfl, c⟩
      · rw [if_pos c, xset_f (by decide), xset_kk (k' := 1) (k := 2) (by decide), xset_kk (k' := 1) (k := 2) (by decide)]
      · rw [if_neg (by rw [c]; decide), xset_f (by decide), xset_kk (k' := 1) (k := 2) (by decide), xset_kk (k' := 1) (k := 2) (by decide)]
    rw [hT]
    exact ⟨RXN_on h5 hj hq n4 m421 hfb, hBM _ ((mset_k (by decide)).trans (mset_k (by decide))) ((mset_k (by decide)).trans (mset_k (by decide)))⟩
  · rw [if_neg (fun z => c (hcond.mp z)), if_pos c]
    generalize (mset M4 20 j 4).1 0 0 + M_minutesOn (mset M4 20 j 4) (nI j) (nI q) = ov
    have h6 : RXN Z (xset S5 2 j 3 4) (mset (mset M4 20 j 4) 23 j ov) t := RXN_over (RXN_v (f := 3) h5 hj (by omega) (by omega) n4 (fun _ => by decide)) hj (by rw [mset_s]; decide)
    have h7 := RXN_f (f := 8) (v := 0) h6 hq (by omega) (by omega)
    have hk : (xset (xset S5 2 j 3 4) 1 q 8 0).1 1 q 0 = (mset (mset (mset M4 20 j 4) 23 j ov) 12 q 0).1 4 q := (h7.p hq).1
    refine ⟨?_, hBM _ ?_ ?_⟩
    · unfold X_breakUp X_isWaterPiece M_isWater
      dsimp only
      rw [hk, hcq]
      by_cases d : (mset (mset (mset M4 20 j 4) 23 j ov) 12 q 0).1 4 q = 2
      · rw [if_neg (fun z => z d), if_neg (fun z => z d), mset_id rfl]
        exact h7
      · rw [if_pos d, if_pos d]
        exact RXN_f (f := 7) h7 hq (by omega) (by omega)
    · rw [mset_k (by decide), mset_k (by decide), mset_k (by decide), mset_k (by decide)]
    · rw [mset_k (by decide), mset_k (by decide), mset_k (by decide), mset_k (by decide)]
theorem move_eq {Z : XZ} {S : XS} {M : MS} {t j : Nat} (h : RXN Z S M t) (hB : BI M (Z.N 1) t) (hI : MI M (Z.N 0) (Z.N 1) t) (hj : j < Z.N 1) : RXN Z (X_moveOn Z S j) (M_passes_s M j) t ∧ BI (M_passes_s M j) (Z.N 1) t := by
  have hv := h.nv
  have hcj : (nI j).toNatClampNeg = j := nI_clamp (by omega)
  have ev := h.v hj
  have en : S.1 0 0 6 = M.1 0 0 := h.2.2.2.1
  obtain ⟨S1, hS1⟩ : ∃ S1 : XS, S1 = (if S.1 2 j 3 = 1 then (if S.1 0 0 6 < S.1 2 j 6 then S else X_leave Z S j) else S) := ⟨_, rfl⟩
  obtain ⟨M1, hM1⟩ : ∃ M1 : MS, M1 = (if M.1 20 j = 1 then (if M.1 0 0 < M.1 23 j then M else M_leaves M (nI j)) else M) := ⟨_, rfl⟩
  have h1 : RXN Z S1 M1 t ∧ BI M1 (Z.N 1) t ∧ MI M1 (Z.N 0) (Z.N 1) t := by
    rw [hS1, hM1, ev.2.2.2.1]
    by_cases c : M.1 20 j = 1
    · rw [if_pos c, if_pos c, en, ev.2.2.2.2.2.2.1 c]
      by_cases d : M.1 0 0 < M.1 23 j
      · rw [if_pos d, if_pos d]
        exact ⟨h, hB, hI⟩
      · rw [if_neg d, if_neg d]
        obtain ⟨a, b⟩ := leave_eq h hB hI hj c
        exact ⟨a, b, MI_leaves hI hj (by rw [hcj]; exact c)⟩
    · rw [if_neg c, if_neg c]
      exact ⟨h, hB, hI⟩
  obtain ⟨a, b, c⟩ := h1
  unfold X_moveOn M_passes_s
  simp only [hcj, ← hS1, ← hM1]
  rw [(a.v hj).2.2.2.1]
  by_cases d : M1.1 20 j = 2
  · rw [if_pos d, if_pos d, against_eq a c hj d]
    by_cases e : M_against M1 (nI j) = 0
    · rw [if_pos e, if_pos e]
      exact come_eq a b c hj d
    · rw [if_neg e, if_neg e]
      exact ⟨a, b⟩
  · rw [if_neg d, if_neg d]
    exact ⟨a, b⟩
