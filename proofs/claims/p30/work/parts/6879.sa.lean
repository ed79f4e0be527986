/-! ===== a vehicle moves on ===== -/
theorem mset_id {M : MS} {k j : Nat} {v : Int32} (h : v = M.1 k j) : mset M k j v = M := by
  subst h
  refine Prod.ext (funext fun k' => funext fun j' => ?_) rfl
  by_cases c : k' = k ∧ j' = j
  · obtain ⟨rfl, rfl⟩ := c
    exact mset_s
  · exact mset_n c
theorem mset_comm {M : MS} {k j k' j' : Nat} {v v' : Int32} (h : k ≠ k') : mset (mset M k j v) k' j' v' = mset (mset M k' j' v') k j v := by
  refine Prod.ext (funext fun a => funext fun b => ?_) rfl
  show (if a = k' ∧ b = j' then v' else if a = k ∧ b = j then v else M.1 a b) = (if a = k ∧ b = j then v else if a = k' ∧ b = j' then v' else M.1 a b)
  by_cases c : a = k' ∧ b = j'
  · rw [if_pos c, if_neg (fun z => h (z.1.symm.trans c.1)), if_pos c]
  · rw [if_neg c, if_neg c]
theorem xset_comm {S : XS} {k i f k' i' f' : Nat} {v v' : Int32} (h : ¬ (k = k' ∧ f = f')) : xset (xset S k i f v) k' i' f' v' = xset (xset S k' i' f' v') k i f v := by
  refine Prod.ext (funext fun a => funext fun b => funext fun d => ?_) rfl
  show (if a = k' ∧ b = i' ∧ d = f' then v' else if a = k ∧ b = i ∧ d = f then v else S.1 a b d) = (if a = k ∧ b = i ∧ d = f then v else if a = k' ∧ b = i' ∧ d = f' then v' else S.1 a b d)
  by_cases c : a = k' ∧ b = i' ∧ d = f'
  · rw [if_pos c, if_neg (fun z => h ⟨z.1.symm.trans c.1, z.2.2.symm.trans c.2.2⟩), if_pos c]
  · rw [if_neg c, if_neg c]
theorem GI_of {M : MS} {np nv t j : Nat} (h : MI M np nv t) : ¬ M.1 24 j ≤ 0 → vp_in (M.1 25 j) 3 := h.2.1 j
theorem MI_24 {M : MS} {np nv t : Nat} (h : MI M np nv t) : ∀ i, i < nv → 0 ≤ (M.1 24 i).toInt := fun i hi => (h.2.2.1 i hi).2.2.2.2.1.1
theorem BI_set {M : MS} {nv t k j : Nat} {v : Int32} (h : BI M nv t) (h4 : k ≠ 24) (h7 : k ≠ 27) : BI (mset M k j v) nv t := BI_eq h (mset_k (fun z => h4 z.symm)) (mset_k (fun z => h7 z.symm))
/-- at an end: it is there, and unloaded -/
theorem stop_eq {Z : XZ} {S : XS} {M : MS} {t j : Nat} (h : RXN Z S M t) (hB : BI M (Z.N 1) t) (hj : j < Z.N 1) (ht : t ≤ 512) (hw : M.1 20 j = 2) (hnp : M.1 3 0 = nI (Z.N 0)) (hg : ¬ M.1 24 j ≤ 0 → vp_in (M.1 25 j) 3) (h0 : ∀ i, i < Z.N 1 → 0 ≤ (M.1 24 i).toInt) : RXN Z (X_stopAtEnd Z S j) (if M_isThere M (nI j) then M_arrives M (nI j) else M) t ∧ BI (if M_isThere M (nI j) then M_arrives M (nI j) else M) (Z.N 1) t := by
  have hv := h.nv
  have hcj : (nI j).toNatClampNeg = j := nI_clamp (by omega)
  have ev := h.v hj
  have e5 := ev.2.2.2.2.2.1
  have e4 := ev.2.2.2.2.1
  have key : ∀ x ub : Int32, ¬ x = 1 → (x = 3 ↔ ¬ ub = 0) → RXN Z (X_unload Z (xset S 2 j 3 x) j) (M_unloads (mset M 20 j x) (nI j) ub) t ∧ BI (M_unloads (mset M 20 j x) (nI j) ub) (Z.N 1) t := fun x ub hx hu => by
    have h1 := RXN_v (f := 3) (v := x) h hj (by omega) (by omega) (by rw [hw]; decide) (fun _ => hx)
    have e24 : (mset M 20 j x).1 24 = M.1 24 := mset_k (by decide)
    have e25 : (mset M 20 j x).1 25 = M.1 25 := mset_k (by decide)
    have hB1 : BI (mset M 20 j x) (Z.N 1) t := BI_set hB (by decide) (by decide)
    exact ⟨RXN_unl h1 hB1 hj ht (by rw [mset_s]; exact hx) (by rw [mset_s]; exact hu) (by rw [e24, e25]; exact hg) (by rw [e24]; exact h0), BI_unl hB1 hj hv ht (by rw [e24, e25]; exact hg) (by rw [e24]; exact h0)⟩
  unfold X_stopAtEnd M_isThere M_arrives
  dsimp only
  rw [e5, e4, hcj, hnp, mset_k (show (22 : Nat) ≠ 20 by decide)]
  by_cases c : M.1 22 j = 0
  · rw [if_pos c, if_pos c, if_pos c, if_pos c]
    by_cases d : M.1 21 j = 0
    · rw [if_pos d, if_pos d]
      exact key 0 _ (by decide) ⟨fun z => absurd z (by decide), fun z => absurd c z⟩
    · rw [if_neg d, if_neg d]
      exact ⟨h, hB⟩
  · rw [if_neg c, if_neg c, if_neg c, if_neg c]
    by_cases d : M.1 21 j = nI (Z.N 0)
    · rw [if_pos d, if_pos d]
      exact key 3 _ (by decide) ⟨fun _ => c, fun _ => rfl⟩
    · rw [if_neg d, if_neg d]
      exact ⟨h, hB⟩
theorem wear_eq {x y : Int32} : (if 0 < x - y then x - y else 0) = (if 0 ≤ x - y then x - y else 0) := by
  generalize x - y = d
  by_cases c : 0 < d
  · rw [if_pos c, if_pos (by rw [Int32.lt_iff_toInt_lt] at c; rw [Int32.le_iff_toInt_le]; omega)]
  · rw [if_neg c]
    split
    · rename_i e
      rw [Int32.lt_iff_toInt_lt] at c
      rw [Int32.le_iff_toInt_le] at e
      exact Int32.toInt_inj.mp (by omega)
    · rfl
theorem leave_eq {Z : XZ} {S : XS} {M : MS} {t j : Nat} (h : RXN Z S M t) (hB : BI M (Z.N 1) t) (hI : MI M (Z.N 0) (Z.N 1) t) (hj : j < Z.N 1) (hw : M.1 20 j = 1) : RXN Z (X_leave Z S j) (M_leaves M (nI j)) t ∧ BI (M_leaves M (nI j)) (Z.N 1) t := by
  have hv := h.nv
  have hp := h.np
  have ht := hI.2.2.2.2.2.2.1
  have hcj : (nI j).toNatClampNeg = j := nI_clamp (by omega)
  obtain ⟨hb01, -, -, -, -, p, hat, -, -, -, hp1, -⟩ := hI.2.2.1 j hj
  have hpn := hp1 hw
  have hcp : (nI p).toNatClampNeg = p := nI_clamp (by omega)
  have ev := h.v hj
  have e5 := ev.2.2.2.2.2.1
  have e4 := ev.2.2.2.2.1
  have ep := h.p hpn
  have ewt : X_weight Z S j = M.1 17 j + M.1 24 j := RV.wt ev
  obtain ⟨fb, hfb⟩ : ∃ fb : Nat, (fb = 12 ∧ M.1 22 j = 0) ∨ (fb = 11 ∧ M.1 22 j = 1) := by
    rcases hb01 with c | c
    · exact ⟨12, Or.inl ⟨rfl, c⟩⟩
    · exact ⟨11, Or.inr ⟨rfl, c⟩⟩
  have h1 := RXN_off h hj hpn hw hat hfb
  generalize hBd : xset (xset S 1 p 13 (S.1 1 p 13 - (M.1 17 j + M.1 24 j))) 1 p fb (S.1 1 p fb - 1) = B at h1
  have b3 : B.1 1 p 3 = M.1 7 p := by
    rw [← hBd, xset_n (by omega), xset_n (by omega)]
    exact ep.f 3 (by omega) (by omega)
  have b0 : B.1 1 p 0 = M.1 4 p := by
    rw [← hBd, xset_n (by omega), xset_n (by omega)]
    exact ep.1
  have bv : B.1 2 = S.1 2 := by rw [← hBd, xset_kk (by decide), xset_kk (by decide)]
  obtain ⟨C, hC⟩ : ∃ C : XS, C = (if ¬ M.1 4 p = 2 then xset B 1 p 3 (if 0 ≤ M.1 7 p - (M.1 17 j + M.1 24 j) / 20000 then M.1 7 p - (M.1 17 j + M.1 24 j) / 20000 else 0) else B) := ⟨_, rfl⟩
  obtain ⟨M1, hM1⟩ : ∃ M1 : MS, M1 = (if ¬ M.1 4 p = 2 then mset M 7 p (if 0 ≤ M.1 7 p - (M.1 17 j + M.1 24 j) / 20000 then M.1 7 p - (M.1 17 j + M.1 24 j) / 20000 else 0) else M) := ⟨_, rfl⟩
  have m1 : ∀ k, k ≠ 7 → M1.1 k = M.1 k := fun k hk => by
    rw [hM1]
    split
    · exact mset_k hk
    · rfl
  have cv : C.1 2 = S.1 2 := by
    rw [hC]
    split
    · rw [xset_kk (by decide), bv]
    · exact bv
  have h2 : RXN Z (xset C 2 j 3 2) (mset M1 20 j 2) t := by
    rw [hC, hM1]
    by_cases c : M.1 4 p = 2
    · rw [if_neg (fun z => z c), if_neg (fun z => z c)]
      exact h1
    · rw [if_pos c, if_pos c, xset_comm (by omega), mset_comm (by omega)]
      exact RXN_f (f := 3) h1 hpn (by omega) (by omega)
  have eX : X_letOff Z S p j = C := by
    unfold X_letOff X_isWaterPiece
    dsimp only
    rw [ewt]
    have e5' : (xset S 1 p 13 (S.1 1 p 13 - (M.1 17 j + M.1 24 j))).1 2 j 5 = M.1 22 j := by rw [xset_kk (by decide)]; exact e5
    have eB : (if (xset S 1 p 13 (S.1 1 p 13 - (M.1 17 j + M.1 24 j))).1 2 j 5 = 0 then xset (xset S 1 p 13 (S.1 1 p 13 - (M.1 17 j + M.1 24 j))) 1 p 12 ((xset S 1 p 13 (S.1 1 p 13 - (M.1 17 j + M.1 24 j))).1 1 p 12 - 1) else xset (xset S 1 p 13 (S.1 1 p 13 - (M.1 17 j + M.1 24 j))) 1 p 11 ((xset S 1 p 13 (S.1 1 p 13 - (M.1 17 j + M.1 24 j))).1 1 p 11 - 1)) = B := by
      rw [e5', ← hBd]
      rcases hfb with ⟨rfl, c⟩ | ⟨rfl, c⟩
      · rw [if_pos c, xset_f (by decide)]
      · rw [if_neg (by rw [c]; decide), xset_f (by decide)]
    rw [eB, b0, b3, hC, wear_eq]
  have hrest : ∀ (S4 : XS) (x4 : Int32), (if C.1 2 j 5 = 0 then C else xset C 2 j 4 (C.1 2 j 4 + 1)) = S4 → (if M1.1 22 j = 0 then nI p else nI p + 1) = x4 → RXN Z (xset S4 2 j 3 2) (mset (mset M1 21 j x4) 20 j 2) t := fun S4 x4 g1 g2 => by
    have c5 : C.1 2 j 5 = M.1 22 j := by rw [cv]; exact e5
    have c4 : C.1 2 j 4 = nI p := by rw [cv, e4]; exact hat
    rw [c5, c4] at g1
    rw [m1 22 (by decide)] at g2
    have n20 : ¬ (mset M1 20 j 2).1 20 j = 1 := by rw [mset_s]; decide
    rw [mset_comm (by decide)]
    by_cases c : M.1 22 j = 0
    · rw [if_pos c] at g1 g2
      rw [← g1, ← g2, mset_id (k := 21)]
      · exact h2
      · rw [mset_k (by decide), m1 21 (by decide)]
        exact hat.symm
    · rw [if_neg c] at g1 g2
      rw [← g1, ← g2, xset_comm (by omega)]
      exact RXN_v (f := 4) h2 hj (by omega) (by omega) n20 (fun z => absurd z (by decide))
  have hX : X_leave Z S j = X_stopAtEnd Z (xset (if C.1 2 j 5 = 0 then C else xset C 2 j 4 (C.1 2 j 4 + 1)) 2 j 3 2) j := by
    unfold X_leave
    dsimp only
    rw [e4, hat, if_neg (nI_pos (by omega)), if_neg (nI_ge hpn (by omega)), hcp, eX]
  have hM : M_leaves M (nI j) = (if M_isThere (mset (mset M1 21 j (if M1.1 22 j = 0 then nI p else nI p + 1)) 20 j 2) (nI j) then M_arrives (mset (mset M1 21 j (if M1.1 22 j = 0 then nI p else nI p + 1)) 20 j 2) (nI j) else mset (mset M1 21 j (if M1.1 22 j = 0 then nI p else nI p + 1)) 20 j 2) := by
    unfold M_leaves M_isWater
    simp only [hcj, hat, hcp, M_weight_j (show j < 2 ^ 31 by omega), ← hM1]
  rw [hX, hM]
  have h3 := hrest _ _ rfl rfl
  generalize (if M1.1 22 j = 0 then nI p else nI p + 1) = x4 at h3 ⊢
  have k9 : ∀ k, k ≠ 7 → k ≠ 20 → k ≠ 21 → (mset (mset M1 21 j x4) 20 j 2).1 k = M.1 k := fun k a b c => by rw [mset_k b, mset_k c, m1 k a]
  refine stop_eq h3 ?_ hj ht mset_s ?_ ?_ ?_
  · exact BI_eq hB (k9 24 (by decide) (by decide) (by decide)) (k9 27 (by decide) (by decide) (by decide))
  · rw [k9 3 (by decide) (by decide) (by decide)]; exact hI.1.1
  · rw [k9 24 (by decide) (by decide) (by decide), k9 25 (by decide) (by decide) (by decide)]; exact hI.2.1 j
  · rw [k9 24 (by decide) (by decide) (by decide)]; exact MI_24 hI
