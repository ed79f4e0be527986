/-! ===== what is against a vehicle: the law's way and the reference's ===== -/
def tagL (o W K : Int32) (N : Prop) (met : Int32) (B : Prop) [Decidable N] [Decidable B] : Int32 :=
  if o = 1 then (if 5000 < W then (if o = 1 then (if W ≤ 5000 then 4 else 3) else 4) else (if N then (if K ≤ 0 then (if B then 0 else 6) else (if met = 0 then (if B then 0 else 6) else 5)) else (if o = 1 then (if W ≤ 5000 then 4 else 3) else 4))) else (if N then (if K ≤ 0 then (if B then 0 else 6) else (if met = 0 then (if B then 0 else 6) else 5)) else (if o = 1 then (if W ≤ 5000 then 4 else 3) else 4))
def tagM (o W K : Int32) (N : Prop) (met : Int32) (B : Prop) [Decidable N] [Decidable B] : Int32 :=
  if o = 1 then (if W ≤ 5000 then (if N then (if K = 0 then (if B then 0 else 6) else (if met = 0 then (if B then 0 else 6) else 5)) else 4) else 3) else (if N then (if K = 0 then (if B then 0 else 6) else (if met = 0 then (if B then 0 else 6) else 5)) else 4)
theorem tag_eq {o W K : Int32} {N : Prop} {met : Int32} {B : Prop} [Decidable N] [Decidable B] (hK : K ≤ 0 ↔ K = 0) : tagL o W K N met B = tagM o W K N met B := by
  have hW : 5000 < W ↔ ¬ W ≤ 5000 := by rw [Int32.lt_iff_toInt_lt, Int32.le_iff_toInt_le]; omega
  unfold tagL tagM
  by_cases c1 : o = 1
  · rw [if_pos c1, if_pos c1, if_pos c1]
    by_cases c2 : W ≤ 5000
    · rw [if_neg (fun z => hW.mp z c2), if_pos c2, if_pos c2]
      by_cases c3 : N
      · rw [if_pos c3, if_pos c3]
        by_cases c4 : K = 0
        · rw [if_pos (hK.mpr c4), if_pos c4]
        · rw [if_neg (fun z => c4 (hK.mp z)), if_neg c4]
      · rw [if_neg c3, if_neg c3]
    · rw [if_pos (hW.mpr c2), if_neg c2, if_neg c2]
  · rw [if_neg c1, if_neg c1, if_neg c1]
    by_cases c3 : N
    · rw [if_pos c3, if_pos c3]
      by_cases c4 : K = 0
      · rw [if_pos (hK.mpr c4), if_pos c4]
      · rw [if_neg (fun z => c4 (hK.mp z)), if_neg c4]
    · rw [if_neg c3, if_neg c3]
theorem L_way_eq {M : MS} {S : LwS} {np nv j : Nat} (h : LRR M S np nv) (hj : j < nv) : L_way S (nI j) = M.1 22 j := by
  have hv := h.2.1
  unfold L_way
  rw [nI_clamp (by omega)]
  exact (h.w hj).way
theorem L_pc_eq {M : MS} {S : LwS} {np nv t j : Nat} (h : LRR M S np nv) (hI : MI M np nv t) (hj : j < nv) (hw : M.1 20 j = 2) : ∃ q : Nat, q < np ∧ M_nextPiece M (nI j) = nI q ∧ ((S 3 j / 8 - S 3 j / 8 / 16 * 16) - 1) + M.1 22 j = nI q := by
  have hv := h.2.1
  obtain ⟨q, hq, e⟩ := MI_next hI hj (by rw [nI_clamp (by omega)]; exact hw)
  refine ⟨q, hq, e, ?_⟩
  rw [(h.w hj).at_]
  obtain ⟨w, a, y, g, h1, h2, h3, h4, e1, e2, e3, -⟩ := h.w hj
  have e9 := e
  simp only [M_nextPiece, nI_clamp (show j < 2 ^ 31 by omega)] at e9
  rw [e3, e2] at e9 ⊢
  rcases (show y = 0 ∨ y = 1 by omega) with rfl | rfl
  · rw [if_pos (show nI 0 = 0 from rfl)] at e9
    rw [show nI 0 = (0 : Int32) from rfl, Int32.add_zero]
    exact e9
  · rw [if_neg (show ¬ nI 1 = 0 by decide)] at e9
    rw [show nI 1 = (1 : Int32) from rfl, Int32.sub_add_cancel]
    exact e9
theorem L_pc_full {M : MS} {S : LwS} {np nv t j : Nat} (h : LRR M S np nv) (hI : MI M np nv t) (hj : j < nv) (hw : M.1 20 j = 2) : ∃ q : Nat, q < np ∧ M_nextPiece M (nI j) = nI q ∧ L_pc S (nI j) = nI q := by
  have hv := h.2.1
  obtain ⟨q, hq, e, e2⟩ := L_pc_eq h hI hj hw
  refine ⟨q, hq, e, ?_⟩
  unfold L_pc
  rw [L_way_eq h hj, nI_clamp (by omega)]
  exact e2
theorem came_ix {y : Int32} {q : Nat} (hy : y = 0 ∨ y = 1) (hq : q < 8) : ((40 + 8 * y) + nI q).toNatClampNeg = (if y = 0 then 40 + q else 48 + q) ∧ vp_in ((40 + 8 * y) + nI q) 57 := by
  rcases hy with rfl | rfl
  · rw [show (40 : Int32) + 8 * 0 = nI 40 by decide, nI_add, if_pos rfl]
    exact ⟨nI_clamp (by omega), vp_in_nI (by omega) (by decide)⟩
  · rw [show (40 : Int32) + 8 * 1 = nI 48 by decide, nI_add, if_neg (by decide)]
    exact ⟨nI_clamp (by omega), vp_in_nI (by omega) (by decide)⟩
theorem lcame_eq {M : MS} {S : LwS} {np nv q : Nat} {y : Int32} (h : LRR M S np nv) (hy : y = 0 ∨ y = 1) (hq : q < np) : S 0 ((40 + 8 * y) + nI q).toNatClampNeg = M.1 15 (2 * nI q + bI (¬ y = 0)).toNatClampNeg := by
  have hn := h.1
  rw [(came_ix hy (by omega)).1]
  rcases hy with rfl | rfl
  · rw [if_pos rfl, bI_f (fun z => z rfl), Int32.add_zero, nI_two, nI_clamp (by omega)]
    exact (h.q hq).2.2.2.2.2.2.2.2.1
  · rw [if_neg (by decide), bI_t (by decide), nI_two, nI_1, nI_clamp (by omega)]
    exact (h.q hq).2.2.2.2.2.2.2.2.2
theorem L_why_no {M : MS} {S : LwS} {np nv j : Nat} (h : LRR M S np nv) (hj : j < nv) (hw : ¬ M.1 20 j = 2) : L_why S (nI j) = -1 := by
  have hv := h.2.1
  unfold L_why
  rw [nI_clamp (by omega), (h.w hj).wh, if_neg hw]
theorem kind_2 {M : MS} {S : LwS} {p : Nat} (h : LRp M S p) : (2 ≤ M.1 4 p ↔ M.1 4 p = 2) ∧ (M.1 4 p ≤ 0 ↔ M.1 4 p = 0) := by
  obtain ⟨k, c, o, l, h1, h2, h3, h4, h5, e1, -⟩ := h
  rw [e1]
  rcases (show k = 0 ∨ k = 1 ∨ k = 2 by omega) with rfl | rfl | rfl <;> exact ⟨by decide, by decide⟩
set_option maxHeartbeats 1000000 in
theorem L_why_eq {M : MS} {S : LwS} {np nv t j : Nat} (h : LRR M S np nv) (hI : MI M np nv t) (hj : j < nv) (hw : M.1 20 j = 2) : L_why S (nI j) = M_against M (nI j) := by
  have hv := h.2.1
  have hn := h.1
  obtain ⟨q, hq, e, e2⟩ := L_pc_eq h hI hj hw
  have ej : (nI j).toNatClampNeg = j := nI_clamp (by omega)
  have eq : (nI q).toNatClampNeg = q := nI_clamp (by omega)
  have hP := h.p hq
  have hW := (h.w hj).w01
  have eL : L_why S (nI j) = if M.1 12 q = 0 then 1 else if 2 ≤ M.1 4 q then tagL (M.1 12 q) (M_weight M (nI j)) (M.1 4 q) (M.1 2 0 ≤ M.1 0 0 - M.1 15 (2 * nI q + bI (¬ M.1 22 j = 0)).toNatClampNeg) (M_isMet M (nI j) (nI q)) (M_weight M (nI j) + M_weights M (nI q) ≤ M_bearsBy M (nI q) (M.2 q).1) else if 0 ≤ M.1 1 0 then tagL (M.1 12 q) (M_weight M (nI j)) (M.1 4 q) (M.1 2 0 ≤ M.1 0 0 - M.1 15 (2 * nI q + bI (¬ M.1 22 j = 0)).toNatClampNeg) (M_isMet M (nI j) (nI q)) (M_weight M (nI j) + M_weights M (nI q) ≤ M_bearsBy M (nI q) (M.2 q).1) else if M.1 0 0 - M.1 0 0 / 1440 * 1440 ≤ 479 then tagL (M.1 12 q) (M_weight M (nI j)) (M.1 4 q) (M.1 2 0 ≤ M.1 0 0 - M.1 15 (2 * nI q + bI (¬ M.1 22 j = 0)).toNatClampNeg) (M_isMet M (nI j) (nI q)) (M_weight M (nI j) + M_weights M (nI q) ≤ M_bearsBy M (nI q) (M.2 q).1) else if 1200 ≤ M.1 0 0 - M.1 0 0 / 1440 * 1440 then tagL (M.1 12 q) (M_weight M (nI j)) (M.1 4 q) (M.1 2 0 ≤ M.1 0 0 - M.1 15 (2 * nI q + bI (¬ M.1 22 j = 0)).toNatClampNeg) (M_isMet M (nI j) (nI q)) (M_weight M (nI j) + M_weights M (nI q) ≤ M_bearsBy M (nI q) (M.2 q).1) else 2 := by
    unfold L_why
    dsimp only
    rw [ej, (h.w hj).wh, if_pos hw, (h.w hj).way, e2, eq, hP.opn, hP.kind, lcame_eq h hW hq, (h.x hj).1, (h.x hj).2.1, h.g.1, h.g.2.1, h.g.2.2.1, h.g.2.2.2.2, L_weights_eq h hI.1, L_bears_eq h hI hq, ← (h.q hq).2.2.2.2.2.2.1]
    have e5 : L_isMet_f S (M.1 22 j) (nI q) (nI nv).toNatClampNeg = M_isMet M (nI j) (nI q) := by
      have e6 := L_isMet_f_eq (x := nI q) (v := nI j) h nv (Nat.le_refl _)
      rw [ej] at e6
      rw [nI_clamp (by omega), e6]
      unfold M_isMet
      rw [hI.1.2.2.1, nI_clamp (by omega)]
    rw [e5]
    have e7 : M_weight M (nI j) = M.1 17 j + M.1 24 j := M_weight_j (by omega)
    rw [e7]
    rfl
  have eM : M_against M (nI j) = if M.1 12 q = 0 then 1 else if ¬ M.1 4 q = 2 then (if 0 ≤ M.1 1 0 then tagM (M.1 12 q) (M_weight M (nI j)) (M.1 4 q) (M.1 2 0 ≤ M.1 0 0 - M.1 15 (2 * nI q + bI (¬ M.1 22 j = 0)).toNatClampNeg) (M_isMet M (nI j) (nI q)) (M_weight M (nI j) + M_weights M (nI q) ≤ M_bearsBy M (nI q) (M.2 q).1) else if M_isIn M (M.1 0 0 - M.1 0 0 / 1440 * 1440) 480 1199 then 2 else tagM (M.1 12 q) (M_weight M (nI j)) (M.1 4 q) (M.1 2 0 ≤ M.1 0 0 - M.1 15 (2 * nI q + bI (¬ M.1 22 j = 0)).toNatClampNeg) (M_isMet M (nI j) (nI q)) (M_weight M (nI j) + M_weights M (nI q) ≤ M_bearsBy M (nI q) (M.2 q).1)) else tagM (M.1 12 q) (M_weight M (nI j)) (M.1 4 q) (M.1 2 0 ≤ M.1 0 0 - M.1 15 (2 * nI q + bI (¬ M.1 22 j = 0)).toNatClampNeg) (M_isMet M (nI j) (nI q)) (M_weight M (nI j) + M_weights M (nI q) ≤ M_bearsBy M (nI q) (M.2 q).1) := by
    unfold M_against M_isWater
    dsimp only
    rw [e, ej, eq]
    rfl
  have ht := @tag_eq (M.1 12 q) (M_weight M (nI j)) (M.1 4 q) (M.1 2 0 ≤ M.1 0 0 - M.1 15 (2 * nI q + bI (¬ M.1 22 j = 0)).toNatClampNeg) (M_isMet M (nI j) (nI q)) (M_weight M (nI j) + M_weights M (nI q) ≤ M_bearsBy M (nI q) (M.2 q).1) _ _ (kind_2 hP).2
  rw [eL, eM, ht]
  generalize tagM (M.1 12 q) (M_weight M (nI j)) (M.1 4 q) (M.1 2 0 ≤ M.1 0 0 - M.1 15 (2 * nI q + bI (¬ M.1 22 j = 0)).toNatClampNeg) (M_isMet M (nI j) (nI q)) (M_weight M (nI j) + M_weights M (nI q) ≤ M_bearsBy M (nI q) (M.2 q).1) = T
  generalize M.1 0 0 - M.1 0 0 / 1440 * 1440 = r
  by_cases c1 : M.1 12 q = 0
  · rw [if_pos c1, if_pos c1]
  · rw [if_neg c1, if_neg c1]
    by_cases c2 : M.1 4 q = 2
    · rw [if_pos ((kind_2 hP).1.mpr c2), if_neg (c := ¬ M.1 4 q = 2) (fun z => z c2)]
    · rw [if_neg (fun z => c2 ((kind_2 hP).1.mp z)), if_pos (c := ¬ M.1 4 q = 2) c2]
      by_cases c3 : 0 ≤ M.1 1 0
      · rw [if_pos c3, if_pos c3]
      · rw [if_neg c3, if_neg c3]
        have l1 : r ≤ 479 ↔ r < 480 := by
          rw [Int32.le_iff_toInt_le, Int32.lt_iff_toInt_lt, show (479 : Int32).toInt = 479 by decide, show (480 : Int32).toInt = 480 by decide]
          omega
        have l2 : 1200 ≤ r ↔ 1199 < r := by
          rw [Int32.le_iff_toInt_le, Int32.lt_iff_toInt_lt, show (1200 : Int32).toInt = 1200 by decide, show (1199 : Int32).toInt = 1199 by decide]
          omega
        by_cases c4 : r < 480
        · rw [if_pos (l1.mpr c4), if_neg (fun z => z.1 c4)]
        · rw [if_neg (fun z => c4 (l1.mp z))]
          by_cases c5 : 1199 < r
          · rw [if_pos (l2.mpr c5), if_neg (fun z => z.2 c5)]
          · rw [if_neg (fun z => c5 (l2.mp z)), if_pos ⟨c4, c5⟩]
