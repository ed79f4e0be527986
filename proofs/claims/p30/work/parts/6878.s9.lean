/-! ===== what is against a vehicle ===== -/
theorem ag_eq {c w n o t g l e k c' w' n' o' t' g' l' e' k' lo hi : Prop} [Decidable c] [Decidable w] [Decidable n] [Decidable o] [Decidable t] [Decidable g] [Decidable l] [Decidable e] [Decidable k] [Decidable c'] [Decidable w'] [Decidable n'] [Decidable o'] [Decidable t'] [Decidable g'] [Decidable l'] [Decidable e'] [Decidable k'] [Decidable lo] [Decidable hi] (hc : c' ↔ c) (hw : w' ↔ w) (hn : n' ↔ n) (ho : o' ↔ o) (ht : t' ↔ t) (hg : g' ↔ g) (hl : l' ↔ l) (he : e' ↔ e) (hk : k' ↔ k) : (if c' then (1 : Int32) else (if w' then (if n' then (if o' then (if t' then (if g' then (if l' then (if k' then (0 : Int32) else 6) else (if e' then (if k' then (0 : Int32) else 6) else 5)) else 4) else 3) else (if g' then (if l' then (if k' then (0 : Int32) else 6) else (if e' then (if k' then (0 : Int32) else 6) else 5)) else 4)) else (if lo then (if o' then (if t' then (if g' then (if l' then (if k' then (0 : Int32) else 6) else (if e' then (if k' then (0 : Int32) else 6) else 5)) else 4) else 3) else (if g' then (if l' then (if k' then (0 : Int32) else 6) else (if e' then (if k' then (0 : Int32) else 6) else 5)) else 4)) else (if hi then (if o' then (if t' then (if g' then (if l' then (if k' then (0 : Int32) else 6) else (if e' then (if k' then (0 : Int32) else 6) else 5)) else 4) else 3) else (if g' then (if l' then (if k' then (0 : Int32) else 6) else (if e' then (if k' then (0 : Int32) else 6) else 5)) else 4)) else 2))) else (if o' then (if t' then (if g' then (if l' then (if k' then (0 : Int32) else 6) else (if e' then (if k' then (0 : Int32) else 6) else 5)) else 4) else 3) else (if g' then (if l' then (if k' then (0 : Int32) else 6) else (if e' then (if k' then (0 : Int32) else 6) else 5)) else 4)))) = (if c then (1 : Int32) else (if w then (if n then (if o then (if t then (if g then (if l then (if k then (0 : Int32) else 6) else (if e then (if k then (0 : Int32) else 6) else 5)) else 4) else 3) else (if g then (if l then (if k then (0 : Int32) else 6) else (if e then (if k then (0 : Int32) else 6) else 5)) else 4)) else (if (¬ lo ∧ ¬ hi) then 2 else (if o then (if t then (if g then (if l then (if k then (0 : Int32) else 6) else (if e then (if k then (0 : Int32) else 6) else 5)) else 4) else 3) else (if g then (if l then (if k then (0 : Int32) else 6) else (if e then (if k then (0 : Int32) else 6) else 5)) else 4)))) else (if o then (if t then (if g then (if l then (if k then (0 : Int32) else 6) else (if e then (if k then (0 : Int32) else 6) else 5)) else 4) else 3) else (if g then (if l then (if k then (0 : Int32) else 6) else (if e then (if k then (0 : Int32) else 6) else 5)) else 4)))) := by
  by_cases q1 : c
  · rw [if_pos q1, if_pos (hc.mpr q1)]
  · rw [if_neg q1, if_neg (fun z => q1 (hc.mp z))]
    have eT : (if o' then (if t' then (if g' then (if l' then (if k' then (0 : Int32) else 6) else (if e' then (if k' then (0 : Int32) else 6) else 5)) else 4) else 3) else (if g' then (if l' then (if k' then (0 : Int32) else 6) else (if e' then (if k' then (0 : Int32) else 6) else 5)) else 4)) = (if o then (if t then (if g then (if l then (if k then (0 : Int32) else 6) else (if e then (if k then (0 : Int32) else 6) else 5)) else 4) else 3) else (if g then (if l then (if k then (0 : Int32) else 6) else (if e then (if k then (0 : Int32) else 6) else 5)) else 4)) := by
      simp only [ho, ht, hg, hl, he, hk]
    by_cases q2 : w
    · rw [if_pos q2, if_pos (hw.mpr q2)]
      by_cases q3 : n
      · rw [if_pos q3, if_pos (hn.mpr q3), eT]
      · rw [if_neg q3, if_neg (fun z => q3 (hn.mp z))]
        by_cases q4 : lo
        · rw [eT, if_pos q4, if_neg (c := ¬ lo ∧ ¬ hi) (fun z => z.1 q4)]
        · rw [if_neg q4]
          by_cases q5 : hi
          · rw [eT, if_pos q5, if_neg (c := ¬ lo ∧ ¬ hi) (fun z => z.2 q5)]
          · rw [if_neg q5, if_pos ⟨q4, q5⟩]
    · rw [if_neg q2, if_neg (fun z => q2 (hw.mp z)), eT]
theorem against_eq {Z : XZ} {S : XS} {M : MS} {t j : Nat} (h : RXN Z S M t) (hI : MI M (Z.N 0) (Z.N 1) t) (hj : j < Z.N 1) (hw : M.1 20 j = 2) : X_whatIsAgainst Z S j = M_against M (nI j) := by
  have hv := h.nv
  have hp := h.np
  have hcj : (nI j).toNatClampNeg = j := nI_clamp (by omega)
  obtain ⟨q, hq, eq⟩ := MI_next hI hj (by rw [hcj]; exact hw)
  have hcq : (nI q).toNatClampNeg = q := nI_clamp (by omega)
  have ea := ahead_eq h hj eq hq
  have ev := h.v hj
  have ep := h.p hq
  obtain ⟨-, -, -, s6, s7, s8, r6, r8, -⟩ := h
  have hb01 := (hI.2.2.1 j hj).1
  unfold X_whatIsAgainst M_against M_isWater M_isIn X_isWaterPiece
  dsimp only
  rw [ea, if_neg (Nat.succ_ne_zero q), show q + 1 - 1 = q from rfl, eq, hcq, hcj, s6, s7, s8]
  have k8 := ep.f 8 (by omega) (by omega)
  have ewt : X_weight Z S j = M_weight M (nI j) := by rw [RV.wt ev, M_weight_j (by omega)]
  have ek : ∀ {x y b d : Int32}, x = y → b = d → (S.1 1 q 13 + x ≤ b ↔ y + M_weights M (nI q) ≤ d) := fun {x y b d} e1 e2 => by
    have e3 : M_weights M (nI q) = S.1 1 q 13 := by
      unfold M_weights
      dsimp only
      rw [hI.1.2.2.1, nI_clamp (by omega), ep.w]
    rw [e1, e2, e3, Int32.add_comm]
  have hl : cameR (X_lastComing Z S q (S.1 2 j 5)) (M.1 15 (2 * nI q + bI (¬ M.1 22 j = 0)).toNatClampNeg) := by
    unfold X_lastComing
    dsimp only
    rw [ev.2.2.2.2.2.1, nI_two]
    by_cases c : M.1 22 j = 0
    · rw [if_pos c, bI_f (fun z => z c), Int32.add_zero, nI_clamp (by omega)]
      exact ep.t0
    · rw [if_neg c, bI_t c, nI_1, nI_clamp (by omega)]
      exact ep.t1
  have he : (X_countOn Z S q (bI (S.1 2 j 5 = 0)) ≤ 0 ↔ M_isMet M (nI j) (nI q) = 0) := by
    unfold X_countOn M_isMet
    dsimp only
    rw [hI.1.2.2.1, nI_clamp (by omega), ev.2.2.2.2.2.1]
    have z0 : ∀ n : Nat, n ≤ 16 → (nI n ≤ 0 ↔ n = 0) := fun n hn => by
      rw [← nI_0, nI_leI (by omega) (by decide)]
      exact Nat.le_zero
    by_cases c : M.1 22 j = 0
    · rw [bI_t c, if_neg (by decide), ep.c1, z0 _ (Nat.le_trans (cnt_le _) hv)]
      refine (met_eq (b := 1) _ hv (fun i hi => ?_) (by omega)).symm
      rw [c]
      rcases (hI.2.2.1 i hi).1 with d | d <;> rw [d] <;> decide
    · have c1 : M.1 22 j = 1 := hb01.resolve_left c
      rw [bI_f c, if_pos rfl, ep.c0, z0 _ (Nat.le_trans (cnt_le _) hv)]
      refine (met_eq (b := 0) _ hv (fun i hi => ?_) (by omega)).symm
      rw [c1]
      rcases (hI.2.2.1 i hi).1 with d | d <;> rw [d] <;> decide
  exact ag_eq (by rw [k8]) (by rw [ep.1]) Iff.rfl (by rw [k8]) (by rw [ewt]) (came_eq r8 r6 hl) (by rw [ep.1]) he (ek ewt (by rw [bears_eq ep (by omega), if_neg (by decide)]))
