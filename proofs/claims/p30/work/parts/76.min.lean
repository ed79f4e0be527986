/-! ===== a vehicle's minute; a minute ===== -/
/-- where a vehicle is -/
theorem LRR_w {M : MS} {S : LwS} {np nv j w' a' : Nat} {d : Int32} (h : LRR M S np nv) (hj : j < nv) (hw : w' ≤ 4) (ha : a' ≤ 8) (hd : d = (nI w' - M.1 20 j) + 8 * (nI a' - M.1 21 j)) : LRR (mset (mset M 21 j (nI a')) 20 j (nI w')) (lset S 3 j (S 3 j + d)) np nv := by
  obtain ⟨w, a, y, g, q1, q2, q3, q4, e1, e2, e3, e4, e5, e6⟩ := h.w hj
  obtain ⟨x1, x2, x3, x4, x5⟩ := h.x hj
  refine LRR_veh h hj (fun k i hk => by rw [mset_k (by omega), mset_k (by omega)]) (fun k i hi => by rw [mset_j hi, mset_j hi]) rfl (fun k i a b => by rw [lset_k a]) (fun i hi hne => ⟨lset_j hne, fun r hr => by rw [lset_k (by decide)]⟩) ⟨w', a', y, g, hw, ha, q3, q4, mset_s, ?_, ?_, ?_, ?_, ?_⟩ ⟨?_, ?_, ?_, ?_, ?_⟩
  · rw [mset_k (by decide), mset_s]
  · rw [mset_k (by decide), mset_k (by decide)]; exact e3
  · rw [mset_k (by decide), mset_k (by decide)]; exact e4
  · rw [lset_s, hd, e5, e1, e2, show w + 8 * a + 128 * y + 256 * g = (128 * y + 256 * g) + (w + 8 * a) by omega, show w' + 8 * a' + 128 * y + 256 * g = (128 * y + 256 * g) + (w' + 8 * a') by omega, ← nI_add (128 * y + 256 * g), ← nI_add (128 * y + 256 * g), ← nI_add w, ← nI_add w', ← nI_mul 8 a, ← nI_mul 8 a']
    show nI (128 * y + 256 * g) + (nI w + 8 * nI a) + (nI w' - nI w + 8 * (nI a' - nI a)) = nI (128 * y + 256 * g) + (nI w' + 8 * nI a')
    grind
  · rw [mset_k (by decide), mset_k (by decide)]; exact e6
  · rw [lset_k (by decide), mset_k (by decide), mset_k (by decide)]; exact x1
  · rw [lset_k (by decide), mset_k (by decide), mset_k (by decide)]; exact x2
  · rw [lset_k (by decide), mset_k (by decide), mset_k (by decide)]; exact x3
  · rw [lset_k (by decide), mset_k (by decide), mset_k (by decide)]; exact x4
  · rw [lset_k (by decide), mset_k (by decide), mset_k (by decide)]; exact x5
theorem LRR_st {M : MS} {S : LwS} {np nv j w' : Nat} {d : Int32} (h : LRR M S np nv) (hj : j < nv) (hw : w' ≤ 4) (hd : d = nI w' - M.1 20 j) : LRR (mset M 20 j (nI w')) (lset S 3 j (S 3 j + d)) np nv := by
  obtain ⟨w, a, y, g, q1, q2, q3, q4, e1, e2, -⟩ := h.w hj
  have := LRR_w (a' := a) (d := d) h hj hw q2 (by rw [hd, e2, Int32.sub_self]; grind)
  rw [← e2, lmset_id] at this
  exact this
theorem LRR_at {M : MS} {S : LwS} {np nv t j : Nat} (h : LRR M S np nv) (hI : MI M np nv t) (hj : j < nv) (hw : M.1 20 j = 1) : ∃ a : Nat, M.1 21 j = nI a ∧ a < np := by
  obtain ⟨-, -, -, -, -, a, ha, -, -, -, h1, -⟩ := hI.2.2.1 j hj
  exact ⟨a, ha, h1 hw⟩
theorem wt_nI {M : MS} {np nv t j : Nat} (hI : MI M np nv t) (hj : j < nv) : ∃ m : Nat, M.1 17 j + M.1 24 j = nI m ∧ m ≤ 100000 := by
  obtain ⟨-, h17, -, -, h24, -⟩ := hI.2.2.1 j hj
  obtain ⟨x, e1, -, l1⟩ := rng_nI (a := 500) (b := 40000) h17
  obtain ⟨y, e2, -, l2⟩ := rng_nI (a := 0) (b := 60000) h24
  exact ⟨x + y, by rw [e1, e2, nI_add], by omega⟩
theorem lwear_eq {b m : Nat} (hb : b < 2 ^ 31) (hm : m < 2 ^ 31) : nI b - (if nI m ≤ nI b then nI m else nI b) = if 0 ≤ nI b - nI m then nI b - nI m else 0 := by
  by_cases c : m ≤ b
  · rw [if_pos (nI_le c hb), nI_sub' c, if_pos (nI_pos' (by omega))]
  · rw [if_neg (fun z => c ((nI_leI hm hb).mp z)), Int32.sub_self, if_neg]
    rw [Int32.le_iff_toInt_le, Int32.toInt_sub, nI_toInt hb, nI_toInt hm, Int32.toInt_zero, Int.bmod_eq_of_le (by omega) (by omega)]
    omega
set_option maxHeartbeats 1000000 in
theorem L_left_eq {M : MS} {S : LwS} {np nv t j : Nat} (h : LRR M S np nv) (hI : MI M np nv t) (hj : j < nv) : LRR (if M.1 20 j = 1 then (if M.1 0 0 < M.1 23 j then M else M_leaves M (nI j)) else M) (L_left S j (M.1 22 j)) np nv := by
  have hn := h.1
  have hv := h.2.1
  have ej : (nI j).toNatClampNeg = j := nI_clamp (by omega)
  have hW := h.w hj
  by_cases c1 : M.1 20 j = 1
  · rw [if_pos c1]
    by_cases c2 : M.1 0 0 < M.1 23 j
    · rw [if_pos c2]
      unfold L_left
      rw [if_pos (by rw [hW.wh]; exact c1), if_pos (by rw [h.g.1, (h.x hj).2.2.2.2]; exact c2)]
      exact h
    · rw [if_neg c2]
      obtain ⟨a, ea, ha⟩ := LRR_at h hI hj c1
      have eca : (nI a).toNatClampNeg = a := nI_clamp (by omega)
      obtain ⟨m, em, hm⟩ := wt_nI hI hj
      obtain ⟨b, wh, wa, sn, k1, k2, k3, k4, q1, q2, q3, q4⟩ := fz_data hI ha
      have hP := h.p ha
      have hy := hW.w01
      obtain ⟨y, ey⟩ : ∃ y : Int32, y = M.1 22 j := ⟨_, rfl⟩
      -- the law's
      obtain ⟨x11, e11⟩ : ∃ z : Int32, z = if S 1 a - S 1 a / 4 * 4 = 2 then 0 else (if (S 4 j + S 4 (8 + j)) / 20000 ≤ S 0 a then (S 4 j + S 4 (8 + j)) / 20000 else S 0 a) := ⟨_, rfl⟩
      obtain ⟨S13, e13⟩ : ∃ z : LwS, z = lset S 0 a (S 0 a - x11) := ⟨_, rfl⟩
      obtain ⟨S14, e14⟩ : ∃ z : LwS, z = lset S13 3 j (S13 3 j + (1 + 8 * y)) := ⟨_, rfl⟩
      have eL : L_left S j (M.1 22 j) = if y = 1 ∧ nI a = S14 6 3 - 1 then L_unloads (lset S14 3 j (S14 3 j + (if y = 1 ∧ nI a = S14 6 3 - 1 then 1 else -2))) (nI j) (bI (y = 1 ∧ nI a = S14 6 3 - 1)) else (if y = 0 then (if nI a = 0 then L_unloads (lset S14 3 j (S14 3 j + (if y = 1 ∧ nI a = S14 6 3 - 1 then 1 else -2))) (nI j) (bI (y = 1 ∧ nI a = S14 6 3 - 1)) else S14) else S14) := by
        unfold L_left
        rw [if_pos (by rw [hW.wh]; exact c1), if_neg (by rw [h.g.1, (h.x hj).2.2.2.2]; exact c2)]
        dsimp only
        rw [hW.at_, ea, eca, ← ey]
        subst e14 e13 e11
        rfl
      rw [eL]
      -- the reference's
      obtain ⟨M1, f1⟩ : ∃ z : MS, z = if M_isWater M (M.1 21 j) then mset M 7 (M.1 21 j).toNatClampNeg (if 0 ≤ M.1 7 (M.1 21 j).toNatClampNeg - M_weight M (nI j) / 20000 then M.1 7 (M.1 21 j).toNatClampNeg - M_weight M (nI j) / 20000 else 0) else M := ⟨_, rfl⟩
      have m1 : ∀ k, k ≠ 7 → M1.1 k = M.1 k := fun k hk => by
        rw [f1]
        split
        · rw [mset_k hk]
        · rfl
      obtain ⟨M7, f7⟩ : ∃ z : MS, z = mset (mset M1 21 j (if M1.1 22 j = 0 then M.1 21 j else M.1 21 j + 1)) 20 j 2 := ⟨_, rfl⟩
      have eM' : ∀ q : Int32, q.toNatClampNeg = j → M_weight M q = M_weight M (nI j) → M_leaves M q = if M_isThere M7 q then M_arrives M7 q else M7 := by
        intro q hq hwq
        subst hq
        unfold M_leaves
        dsimp only
        rw [hwq]
        subst f7 f1
        rfl
      have eM := eM' (nI j) ej rfl
      simp only [ea, eca] at f1 f7
      rw [eM]
      have h1 : LRR M1 S13 np nv := by
        have ew : M_weight M (nI j) / 20000 = nI (m / 20000) := by
          unfold M_weight
          rw [ej, em]
          exact nI_div (b := 20000) (by omega) (by decide)
        have hd := Nat.div_le_self m 20000
        rw [f1, e13, e11, hP.kind, (h.x hj).1, (h.x hj).2.1, em, show nI m / 20000 = nI (m / 20000) from nI_div (b := 20000) (by omega) (by decide), ew, (h.q ha).2.2.1, k1]
        by_cases c3 : M.1 4 a = 2
        · rw [if_pos c3, if_neg (show ¬ M_isWater M (nI a) by unfold M_isWater; rw [eca]; exact fun z => z c3), Int32.sub_zero, ← k1, ← (h.q ha).2.2.1, lset_id]
          exact h
        · rw [if_neg c3, if_pos (show M_isWater M (nI a) by unfold M_isWater; rw [eca]; exact c3), lwear_eq (by omega) (by omega)]
          exact LRR_f h ha (Or.inl ⟨rfl, rfl⟩)
      have y1 : M1.1 22 j = y := by rw [m1 22 (by decide), ey]
      have w1 : M1.1 20 j = 1 := by rw [m1 20 (by decide)]; exact c1
      have a1 : M1.1 21 j = nI a := by rw [m1 21 (by decide)]; exact ea
      have h7 : ∀ z : Nat, y = nI z → z ≤ 1 → LRR (mset (mset M1 21 j (nI (a + z))) 20 j (nI 2)) S14 np nv := fun z hz hz1 => by
        rw [e14]
        refine LRR_w h1 hj (by omega) (by omega) ?_
        rw [w1, a1, hz, ← nI_add]
        show 1 + 8 * nI z = (2 - 1) + 8 * (nI a + nI z - nI a)
        grind
      have g3 : S14 6 3 = nI np := by
        rw [e14, e13, lset_k (by decide), lset_k (by decide)]
        exact h.g.2.2.2.1
      rw [g3]
      have n3 : M1.1 3 0 = nI np := by rw [m1 3 (by decide)]; exact hI.1.1
      rcases (show y = 0 ∨ y = 1 by rw [ey]; exact hy) with hy0 | hy1
      · -- to the base
        have h7' := h7 0 (by rw [hy0]; rfl) (by omega)
        rw [y1, hy0, if_pos rfl] at f7
        have f7' : M7 = mset (mset M1 21 j (nI (a + 0))) 20 j (nI 2) := f7
        rw [← f7'] at h7'
        have t22 : M7.1 22 j = 0 := by rw [f7, mset_k (by decide), mset_k (by decide), y1, hy0]
        have t21 : M7.1 21 j = nI a := by rw [f7, mset_k (by decide), mset_s]
        have t20 : M7.1 20 j = nI 2 := by rw [f7, mset_s]; rfl
        have ht : M_isThere M7 (nI j) ↔ nI a = 0 := by
          unfold M_isThere
          dsimp only
          rw [ej, t22, if_pos rfl, t21]
        have hno : ¬ ((0 : Int32) = 1 ∧ nI a = nI np - 1) := fun z => absurd z.1 (by decide)
        rw [hy0, if_neg hno, if_pos (show (0 : Int32) = 0 from rfl)]
        by_cases c4 : nI a = 0
        · rw [if_pos (ht.mpr c4), if_pos c4, if_neg hno, bI_f hno]
          unfold M_arrives
          dsimp only
          rw [ej, t22, if_pos rfl, mset_k (show (22 : Nat) ≠ 20 by decide), t22]
          refine LRR_unl ?_ hj
          exact LRR_st (w' := 0) h7' hj (by omega) (by rw [t20]; decide)
        · rw [if_neg (fun z => c4 (ht.mp z)), if_neg c4]
          exact h7'
      · -- to the mine
        have h7' := h7 1 (by rw [hy1]; rfl) (by omega)
        rw [y1, hy1, if_neg (by decide)] at f7
        have f7' : M7 = mset (mset M1 21 j (nI (a + 1))) 20 j (nI 2) := by rw [f7, nI_1]; rfl
        rw [← f7'] at h7'
        have t22 : M7.1 22 j = 1 := by rw [f7, mset_k (by decide), mset_k (by decide), y1, hy1]
        have t21 : M7.1 21 j = nI (a + 1) := by rw [f7', mset_k (by decide), mset_s]
        have t20 : M7.1 20 j = nI 2 := by rw [f7', mset_s]
        have t3 : M7.1 3 0 = nI np := by rw [f7, mset_k (by decide), mset_k (by decide), n3]
        have en : nI np - 1 = nI (np - 1) := by
          obtain ⟨n', rfl⟩ : ∃ n', np = n' + 1 := ⟨np - 1, by omega⟩
          exact nI_pred n'
        have hc : nI a = nI np - 1 ↔ a + 1 = np := by
          rw [en, nI_eq (by omega) (by omega)]
          omega
        have ht : M_isThere M7 (nI j) ↔ a + 1 = np := by
          unfold M_isThere
          dsimp only
          rw [ej, t22, if_neg (by decide), t21, t3]
          exact nI_eq (by omega) (by omega)
        rw [hy1]
        by_cases c4 : a + 1 = np
        · rw [if_pos (ht.mpr c4), if_pos ⟨rfl, hc.mpr c4⟩, if_pos ⟨rfl, hc.mpr c4⟩, bI_t ⟨rfl, hc.mpr c4⟩]
          unfold M_arrives
          dsimp only
          rw [ej, t22, if_neg (by decide), mset_k (show (22 : Nat) ≠ 20 by decide), t22]
          refine LRR_unl ?_ hj
          exact LRR_st (w' := 3) h7' hj (by omega) (by rw [t20]; decide)
        · rw [if_neg (fun z => c4 (ht.mp z)), if_neg (fun z : (1 : Int32) = 1 ∧ nI a = nI np - 1 => c4 (hc.mp z.2)), if_neg (show ¬ (1 : Int32) = 0 by decide)]
          exact h7'
  · rw [if_neg c1]
    unfold L_left
    rw [if_neg (by rw [hW.wh]; exact c1)]
    exact h
