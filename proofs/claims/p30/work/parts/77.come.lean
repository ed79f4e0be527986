/-! ===== coming; a minute ===== -/
theorem minOn_k {M M' : MS} {v p : Int32} (h4 : M'.1 4 = M.1 4) (h5 : M'.1 5 = M.1 5) (h6 : M'.1 6 = M.1 6) (h13 : M'.1 13 = M.1 13) (h19 : M'.1 19 = M.1 19) : M_minutesOn M' v p = M_minutesOn M v p := by
  have e : M_speedOn M' v p = M_speedOn M v p := by
    unfold M_speedOn M_isWater
    rw [h4, h6, h13, h19]
  unfold M_minutesOn
  rw [e, h5]
set_option maxHeartbeats 2000000 in
theorem L_came_eq {M : MS} {S : LwS} {np nv t j : Nat} (h : LRR M S np nv) (hI : MI M np nv t) (hj : j < nv) : LRR (if M.1 20 j = 2 then (if M_against M (nI j) = 0 then M_comes M (nI j) else M) else M) (L_came S j (M.1 22 j)) np nv := by
  have hn := h.1
  have hv := h.2.1
  have ej : (nI j).toNatClampNeg = j := nI_clamp (by omega)
  have hW := h.w hj
  by_cases c1 : M.1 20 j = 2
  · rw [if_pos c1]
    by_cases c2 : M_against M (nI j) = 0
    · rw [if_pos c2]
      obtain ⟨q, hq, eq, eq2⟩ := L_pc_eq h hI hj c1
      have ecq : (nI q).toNatClampNeg = q := nI_clamp (by omega)
      obtain ⟨b, eb, hb⟩ : ∃ b : Nat, M.1 22 j = nI b ∧ b ≤ 1 := by
        rcases hW.w01 with z | z
        · exact ⟨0, z, by omega⟩
        · exact ⟨1, z, by omega⟩
      obtain ⟨w, a, y, g, q1, q2, q3, q4, e1, e2, e3, e4, e5, e6⟩ := h.w hj
      have eyb : y = b := by
        rw [e3] at eb
        exact (nI_eq (by omega) (by omega)).mp eb
      subst eyb
      have ew : w = 2 := by
        rw [e1] at c1
        exact (nI_eq (b := 2) (by omega) (by decide)).mp c1
      subst ew
      have haq : a + y = q + 1 := by
        rw [(h.w hj).at_, e2, e3] at eq2
        have z : nI a + nI y = nI q + 1 := by rw [← eq2]; grind
        rw [nI_add, nI_1] at z
        exact (nI_eq (by omega) (by omega)).mp z
      -- does it break
      obtain ⟨C, hC⟩ : ∃ C : Prop, C = ¬ (M_weight M (nI j) + M_weights M (nI q) ≤ M_bearsBy M (nI q) (M_thick M (nI q))) := ⟨_, rfl⟩
      have hCd : Decidable C := by rw [hC]; infer_instance
      have eC : (¬ (S 4 j + S 4 (8 + j) + L_weights S (nI q) ≤ L_bears S (nI q) (L_twice S (nI q)))) = C := by
        rw [hC, (h.x hj).1, (h.x hj).2.1, L_weights_eq h hI.1, L_bears_eq h hI hq, L_thick_eq h hI hq, M_weight_j (by omega)]
      -- the law's
      have e40 : ((40 + 8 * nI y) + nI q).toNatClampNeg = 40 + 8 * y + q := by
        rw [show (40 : Int32) + 8 * nI y = nI (40 + 8 * y) by rw [← nI_add, ← nI_mul]; rfl, nI_add, nI_clamp (by omega)]
      obtain ⟨S13, f13⟩ : ∃ z : LwS, z = lset S 0 (40 + 8 * y + q) (S 6 0) := ⟨_, rfl⟩
      obtain ⟨S14, f14⟩ : ∃ z : LwS, z = lset S13 4 (32 + j) (S13 6 0 + L_minutes S13 (nI j) (nI q)) := ⟨_, rfl⟩
      obtain ⟨S17, f17⟩ : ∃ z : LwS, z = lset S14 3 j (S14 3 j + (8 * (nI y - 1) + (if C then 2 else -1))) := ⟨_, rfl⟩
      have eL : L_came S j (M.1 22 j) = if C then lset S17 1 q (S17 1 q + (4 * (if S17 1 q - S17 1 q / 4 * 4 = 2 then 0 else 2 - (S17 1 q / 4 - S17 1 q / 4 / 4 * 4)) - 16 * (S17 1 q / 16 - S17 1 q / 16 / 4 * 4))) else S17 := by
        unfold L_came
        rw [if_pos (by rw [hW.wh]; exact c1), if_pos (by rw [L_why_eq h hI hj c1]; exact c2)]
        dsimp only
        rw [eq2]
        simp only [eC, e3, e40, ecq]
        subst f17 f14 f13
        congr
      rw [eL]
      -- the reference's
      have e15 : (2 * nI q + bI (¬ M.1 22 j = 0)).toNatClampNeg = 2 * q + y := by
        rw [e3, nI_two]
        rcases (show y = 0 ∨ y = 1 by omega) with rfl | rfl
        · rw [bI_f (fun z => z rfl), show (0 : Int32) = nI 0 from rfl, nI_add, nI_clamp (by omega)]
        · rw [bI_t (by decide), nI_1, nI_clamp (by omega)]
      obtain ⟨M3, g3⟩ : ∃ z : MS, z = mset M 15 (2 * nI q + bI (¬ M.1 22 j = 0)).toNatClampNeg (M.1 0 0) := ⟨_, rfl⟩
      obtain ⟨M7, g7⟩ : ∃ z : MS, z = mset (mset M3 21 j (nI q)) 20 j (if C then 4 else 1) := ⟨_, rfl⟩
      obtain ⟨M8, g8⟩ : ∃ z : MS, z = mset M7 23 j (M7.1 0 0 + M_minutesOn M7 (nI j) (nI q)) := ⟨_, rfl⟩
      have eM : M_comes M (nI j) = if C then mset (mset M8 12 q 0) 11 q (if ¬ M8.1 4 q = 2 then 2 else M8.1 11 q) else M8 := by
        unfold M_comes M_isWater
        dsimp only
        rw [eq]
        simp only [← hC, ej, ecq]
        subst g8 g7 g3
        congr
      rw [eM]
      rw [e15] at g3
      have h3 : LRR M3 S13 np nv := by
        rw [g3, f13, h.g.1]
        exact LRR_cm h hq hb
      have hI3 : MI M3 np nv t := MI_set hI (by decide) g3
      have em : M7.1 0 0 + M_minutesOn M7 (nI j) (nI q) = S13 6 0 + L_minutes S13 (nI j) (nI q) := by
        rw [L_minutes_eq h3 hI3 hq hj, h3.g.1, g7, minOn_k (M := M3) (by rw [mset_k (by decide), mset_k (by decide)]) (by rw [mset_k (by decide), mset_k (by decide)]) (by rw [mset_k (by decide), mset_k (by decide)]) (by rw [mset_k (by decide), mset_k (by decide)]) (by rw [mset_k (by decide), mset_k (by decide)]), mset_k (by decide), mset_k (by decide)]
      have h8 : LRR M8 S17 np nv := by
        obtain ⟨w', a', y', g', p1, p2, p3, p4, d1, d2, d3, d4, d5, d6⟩ := h3.w hj
        obtain ⟨x1, x2, x3, x4, x5⟩ := h3.x hj
        have s3 : S13 3 j = nI (2 + 8 * a + 128 * y + 256 * g) := by rw [f13, lset_k (by decide)]; exact e5
        have m22 : M3.1 22 j = nI y := by rw [g3, mset_k (by decide)]; exact e3
        have m25 : M3.1 25 j = nI g - 1 := by rw [g3, mset_k (by decide)]; exact e4
        have m24 : M3.1 24 j = M.1 24 j := by rw [g3, mset_k (by decide)]
        rw [g8, em, g7, f17, f14]
        refine LRR_veh h3 hj (fun k i hk => by rw [mset_k (by omega), mset_k (by omega), mset_k (by omega)]) (fun k i hi => by rw [mset_j hi, mset_j hi, mset_j hi]) rfl (fun k i a b => by rw [lset_k a, lset_k b]) (fun i hi hne => ⟨by rw [lset_j hne, lset_k (by decide)], fun r hr => by rw [lset_k (by decide), lset_n (by omega)]⟩) ⟨if C then 4 else 1, q, y, g, by split <;> omega, by omega, q3, q4, ?_, ?_, ?_, ?_, ?_, ?_⟩ ⟨?_, ?_, ?_, ?_, ?_⟩
        · rw [mset_k (by decide), mset_s]
          by_cases c : C
          · rw [if_pos c, if_pos c]; rfl
          · rw [if_neg c, if_neg c]; rfl
        · rw [mset_k (by decide), mset_k (by decide), mset_s]
        · rw [mset_k (by decide), mset_k (by decide), mset_k (by decide)]; exact m22
        · rw [mset_k (by decide), mset_k (by decide), mset_k (by decide)]; exact m25
        · rw [lset_s, lset_k (by decide), s3]
          by_cases c : C
          · rw [if_pos c, if_pos c, show 2 + 8 * a + 128 * y + 256 * g = (128 * y + 256 * g) + (2 + 8 * a) by omega, show 4 + 8 * q + 128 * y + 256 * g = (128 * y + 256 * g) + (4 + 8 * q) by omega, ← nI_add (128 * y + 256 * g), ← nI_add (128 * y + 256 * g), Int32.add_assoc]
            refine congrArg (fun z => nI (128 * y + 256 * g) + z) ?_
            have z : nI a + nI y = nI q + 1 := by rw [nI_add, nI_1, haq]
            rw [← nI_add 2, ← nI_add 4, ← nI_mul 8, ← nI_mul 8]
            show 2 + 8 * nI a + (8 * (nI y - 1) + 2) = 4 + 8 * nI q
            grind
          · rw [if_neg c, if_neg c, show 2 + 8 * a + 128 * y + 256 * g = (128 * y + 256 * g) + (2 + 8 * a) by omega, show 1 + 8 * q + 128 * y + 256 * g = (128 * y + 256 * g) + (1 + 8 * q) by omega, ← nI_add (128 * y + 256 * g), ← nI_add (128 * y + 256 * g), Int32.add_assoc]
            refine congrArg (fun z => nI (128 * y + 256 * g) + z) ?_
            have z : nI a + nI y = nI q + 1 := by rw [nI_add, nI_1, haq]
            rw [← nI_add 2, ← nI_add 1, ← nI_mul 8, ← nI_mul 8]
            show 2 + 8 * nI a + (8 * (nI y - 1) + -1) = 1 + 8 * nI q
            grind
        · rw [mset_k (by decide), mset_k (by decide), mset_k (by decide), m24]; exact e6
        · rw [lset_k (by decide), lset_n (by omega), mset_k (by decide), mset_k (by decide), mset_k (by decide)]; exact x1
        · rw [lset_k (by decide), lset_n (by omega), mset_k (by decide), mset_k (by decide), mset_k (by decide)]; exact x2
        · rw [lset_k (by decide), lset_n (by omega), mset_k (by decide), mset_k (by decide), mset_k (by decide)]; exact x3
        · rw [lset_k (by decide), lset_n (by omega), mset_k (by decide), mset_k (by decide), mset_k (by decide)]; exact x4
        · rw [lset_k (by decide), lset_s, mset_s]
      by_cases c : C
      · rw [if_pos c, if_pos c]
        have h9 := LRR_fl (k := 12) (m := 16) (x := 0) (d := nI 16 * (nI 0 - M8.1 12 q)) h8 hq (Or.inr (Or.inl ⟨rfl, rfl, by omega⟩)) rfl
        have hcr := crk (h9.p hq)
        have hcr8 : (mset M8 12 q (nI 0)).1 11 q = M8.1 11 q := by rw [mset_k (by decide)]
        rw [hcr8] at hcr
        have h10 := LRR_cr (y := if ¬ M8.1 4 q = 2 then 2 else M8.1 11 q) (y0 := M8.1 11 q) h9 hq (by
          split
          · exact Or.inr (Or.inr rfl)
          · exact hcr) hcr8.symm
        rw [lset_s, lset_over] at h10
        have ev : S17 1 q + nI 16 * (nI 0 - M8.1 12 q) + 4 * ((if ¬ M8.1 4 q = 2 then 2 else M8.1 11 q) - M8.1 11 q) = S17 1 q + (4 * (if S17 1 q - S17 1 q / 4 * 4 = 2 then 0 else 2 - (S17 1 q / 4 - S17 1 q / 4 / 4 * 4)) - 16 * (S17 1 q / 16 - S17 1 q / 16 / 4 * 4)) := by
          rw [(h8.p hq).kind, (h8.p hq).crack, (h8.p hq).opn]
          by_cases c5 : M8.1 4 q = 2
          · rw [if_neg (c := ¬ M8.1 4 q = 2) (fun z => z c5), if_pos c5]
            show S17 1 q + 16 * (0 - M8.1 12 q) + 4 * (M8.1 11 q - M8.1 11 q) = S17 1 q + (4 * 0 - 16 * M8.1 12 q)
            grind
          · rw [if_pos (c := ¬ M8.1 4 q = 2) c5, if_neg c5]
            show S17 1 q + 16 * (0 - M8.1 12 q) + 4 * (2 - M8.1 11 q) = S17 1 q + (4 * (2 - M8.1 11 q) - 16 * M8.1 12 q)
            grind
        rw [ev] at h10
        exact h10
      · rw [if_neg c, if_neg c]
        exact h8
    · rw [if_neg c2]
      unfold L_came
      rw [if_pos (by rw [hW.wh]; exact c1), if_neg (by rw [L_why_eq h hI hj c1]; exact c2)]
      exact h
  · rw [if_neg c1]
    unfold L_came
    rw [if_neg (by rw [hW.wh]; exact c1)]
    exact h
/-- which way a vehicle goes does not change when it leaves its piece -/
theorem M_leaves_22 {M : MS} {v : Int32} : (M_leaves M v).1 22 = M.1 22 := by
  unfold M_leaves
  dsimp only
  have e : ∀ (c : Prop) [Decidable c] (i : Nat) (x y z : Int32) (a b : Nat), (mset (mset (if c then mset M 7 i x else M) 21 a y) 20 b z).1 22 = M.1 22 := fun c _ i x y z a b => by
    rw [mset_k (by decide), mset_k (by decide)]
    split
    · rw [mset_k (by decide)]
    · rfl
  refine ite_P (fun z : MS => z.1 22 = M.1 22) ?_ ?_
  · rw [M_arrives_k (k := 22) _ _ (by decide) (by decide) (by decide) (by decide) (by decide)]
    exact e _ _ _ _ _ _ _
  · exact e _ _ _ _ _ _ _
theorem L_left_way {M : MS} {j : Nat} : (if M.1 20 j = 1 then (if M.1 0 0 < M.1 23 j then M else M_leaves M (nI j)) else M).1 22 j = M.1 22 j := by
  split
  · split
    · rfl
    · rw [M_leaves_22]
  · rfl
theorem MI_left {M : MS} {np nv t j : Nat} (hI : MI M np nv t) (hj : j < nv) : MI (if M.1 20 j = 1 then (if M.1 0 0 < M.1 23 j then M else M_leaves M (nI j)) else M) np nv t := by
  have hv := hI.1.2.2.2
  by_cases c1 : M.1 20 j = 1
  · rw [if_pos c1]
    by_cases c2 : M.1 0 0 < M.1 23 j
    · rw [if_pos c2]; exact hI
    · rw [if_neg c2]; exact MI_leaves hI hj (by rw [nI_clamp (by omega)]; exact c1)
  · rw [if_neg c1]; exact hI
theorem L_minute_s_two {S : LwS} {n : Nat} : L_minute_s S n = L_came (L_left S n (S 3 n / 128 - S 3 n / 128 / 2 * 2)) n (S 3 n / 128 - S 3 n / 128 / 2 * 2) := rfl
theorem L_minute_s_eq {M : MS} {S : LwS} {np nv t j : Nat} (h : LRR M S np nv) (hI : MI M np nv t) (hj : j < nv) : LRR (M_passes_s M j) (L_minute_s S j) np nv := by
  have hv := h.2.1
  have ej : (nI j).toNatClampNeg = j := nI_clamp (by omega)
  rw [L_minute_s_two, (h.w hj).way]
  unfold M_passes_s
  dsimp only
  rw [ej]
  have h1 := L_left_eq h hI hj
  have hI1 := MI_left hI hj
  have hw := L_left_way (M := M) (j := j)
  generalize (if M.1 20 j = 1 then (if M.1 0 0 < M.1 23 j then M else M_leaves M (nI j)) else M) = M1 at h1 hI1 hw ⊢
  rw [← hw]
  rw [← hw] at h1
  exact L_came_eq h1 hI1 hj
theorem L_minute_f_eq {M : MS} {S : LwS} {np nv t : Nat} (h : LRR M S np nv) (hI : MI M np nv t) : ∀ n, n ≤ nv → LRR (M_passes_f M n) (L_minute_f S n) np nv := by
  intro n
  induction n with
  | zero => intro _; exact h
  | succ n ih => intro hn; exact L_minute_s_eq (ih (by omega)) (MI_passes_f hI (by omega)) (by omega)
/-- a minute's first part: the clock, and the end of a day -/
def M_first (M : MS) : MS := if (mset M 0 0 (M.1 0 0 + 1)).1 0 0 - (mset M 0 0 (M.1 0 0 + 1)).1 0 0 / 1440 * 1440 = 0 then M_ends (mset M 0 0 (M.1 0 0 + 1)) else mset M 0 0 (M.1 0 0 + 1)
def L_first (S : LwS) : LwS := if (lset S 6 0 (S 6 0 + 1)) 6 0 - (lset S 6 0 (S 6 0 + 1)) 6 0 / 1440 * 1440 = 0 then L_ends (lset S 6 0 (S 6 0 + 1)) else lset S 6 0 (S 6 0 + 1)
theorem L_tick {M : MS} {S : LwS} {np nv t : Nat} (h : LRR M S np nv) (hI : MI M np nv t) : LRR (mset M 0 0 (M.1 0 0 + 1)) (lset S 6 0 (S 6 0 + 1)) np nv ∧ MI (mset M 0 0 (M.1 0 0 + 1)) np nv t := by
  refine ⟨?_, MI_set hI (by decide) rfl⟩
  rw [h.g.1]
  exact LRR_0 h (by omega)
theorem L_first_eq {M : MS} {S : LwS} {np nv t : Nat} (h : LRR M S np nv) (hI : MI M np nv t) : LRR (M_first M) (L_first S) np nv ∧ MI (M_first M) np nv t := by
  obtain ⟨h1, hI1⟩ := L_tick h hI
  unfold M_first L_first
  rw [h1.g.1]
  split
  · exact ⟨L_ends_eq h1 hI1, MI_ends hI1⟩
  · exact ⟨h1, hI1⟩
theorem L_minute_eq {M : MS} {S : LwS} {np nv t : Nat} (h : LRR M S np nv) (hI : MI M np nv t) : LRR (M_passes M) (L_minute S) np nv := by
  have hv := h.2.1
  obtain ⟨h1, hI1⟩ := L_first_eq h hI
  have e1 := h1.g.2.2.2.2
  have e2 := hI1.1.2.2.1
  have eM : M_passes M = M_passes_f (M_first M) ((M_first M).1 16 0).toNatClampNeg := rfl
  have eL : L_minute S = L_minute_f (L_first S) ((L_first S) 6 4).toNatClampNeg := rfl
  rw [eM, eL, e1, e2, nI_clamp (by omega)]
  exact L_minute_f_eq h1 hI1 nv (Nat.le_refl _)
/-! what the walks want of the relation -/
theorem L_at_in {M : MS} {S : LwS} {np nv t j : Nat} (h : LRR M S np nv) (hI : MI M np nv t) (hj : j < nv) (hw : S 3 j - S 3 j / 8 * 8 = 1) : vp_in (S 3 j / 8 - S 3 j / 8 / 16 * 16) 8 := by
  have hn := h.1
  obtain ⟨a, ea, ha⟩ := LRR_at h hI hj (by rw [← (h.w hj).wh]; exact hw)
  rw [(h.w hj).at_, ea]
  exact vp_in_nI (by omega) (by decide)
theorem L_pc_in {M : MS} {S : LwS} {np nv t j : Nat} {x y : Int32} (h : LRR M S np nv) (hI : MI M np nv t) (hj : j < nv) (hw : S 3 j - S 3 j / 8 * 8 = 2) (hx : x = M.1 22 j) (ey : y = ((S 3 j / 8 - S 3 j / 8 / 16 * 16) - 1) + x) : ∃ q : Nat, q < np ∧ y = nI q := by
  obtain ⟨q, hq, -, e2⟩ := L_pc_eq h hI hj (by rw [← (h.w hj).wh]; exact hw)
  exact ⟨q, hq, by rw [ey, hx, e2]⟩
theorem L_pc_8 {M : MS} {S : LwS} {np nv : Nat} {y : Int32} (h : LRR M S np nv) (hy : ∃ q : Nat, q < np ∧ y = nI q) : vp_in y 8 := by
  have hn := h.1
  obtain ⟨q, hq, rfl⟩ := hy
  exact vp_in_nI (by omega) (by decide)
theorem L_pc_57 {M : MS} {S : LwS} {np nv j : Nat} {x y : Int32} (h : LRR M S np nv) (hj : j < nv) (hx : x = M.1 22 j) (hy : ∃ q : Nat, q < np ∧ y = nI q) : vp_in ((40 + 8 * x) + y) 57 := by
  have hn := h.1
  obtain ⟨q, hq, rfl⟩ := hy
  exact (came_ix (by rw [hx]; exact (h.w hj).w01) (by omega)).2
theorem L_why_pre {M : MS} {S : LwS} {np nv t j : Nat} (h : LRR M S np nv) (hI : MI M np nv t) (hj : j < nv) (hw : S 3 j - S 3 j / 8 * 8 = 2) : vp_in (L_pc S (nI j)) 8 ∧ vp_in ((40 + (8 * L_way S (nI j))) + L_pc S (nI j)) 57 := by
  obtain ⟨q, hq, -, e⟩ := L_pc_full h hI hj (by rw [← (h.w hj).wh]; exact hw)
  exact ⟨L_pc_8 h ⟨q, hq, e⟩, L_pc_57 h hj (L_way_eq h hj) ⟨q, hq, e⟩⟩
theorem L_gd {M : MS} {S S13 S14 S19 : LwS} {np nv j i : Nat} {x7 x17 v : Int32} {P : Prop} [Decidable P] (h : LRR M S np nv) (hj : j < nv) (hw : S 3 j - S 3 j / 8 * 8 = 1) (e7 : x7 = S 3 j / 128 - S 3 j / 128 / 2 * 2) (e13 : S13 = lset S 0 i v) (e14 : S14 = lset S13 3 j (S13 3 j + (1 + 8 * x7))) (e17 : x17 = if P then 1 else -2) (e19 : S19 = lset S14 3 j (S14 3 j + x17)) : ¬ (S19 3 (nI j).toNatClampNeg / 256) - 1 < 0 → vp_in ((S19 3 (nI j).toNatClampNeg / 256) - 1) 3 := by
  have hv := h.2.1
  have hway := (h.w hj).way
  have hwh := (h.w hj).wh
  obtain ⟨w, a, y, g, q1, q2, q3, q4, d1, d2, d3, d4, d5, d6⟩ := h.w hj
  have ew : w = 1 := by
    rw [hwh, d1] at hw
    exact (nI_eq (b := 1) (by omega) (by decide)).mp hw
  subst ew
  have e : ∃ r : Nat, r ≤ 250 ∧ S19 3 j = nI (r + 256 * g) := by
    rw [e19, lset_s, e14, lset_s, e13, lset_k (by decide), e7, hway, d3, d5, e17]
    split
    · refine ⟨3 + 8 * (a + y) + 128 * y, by omega, ?_⟩
      rw [show 3 + 8 * (a + y) + 128 * y + 256 * g = (1 + 8 * a + 128 * y + 256 * g) + (1 + 8 * y) + 1 by omega, ← nI_add _ 1, ← nI_add _ (1 + 8 * y), ← nI_add 1 (8 * y), ← nI_mul]
      rfl
    · refine ⟨8 * (a + y) + 128 * y, by omega, ?_⟩
      have z : nI (1 + 8 * a + 128 * y + 256 * g) + (1 + 8 * nI y) = nI (8 * (a + y) + 128 * y + 256 * g) + 2 := by
        show nI (1 + 8 * a + 128 * y + 256 * g) + (nI 1 + nI 8 * nI y) = nI (8 * (a + y) + 128 * y + 256 * g) + nI 2
        rw [nI_mul, nI_add, nI_add, nI_add]
        congr 1
        omega
      rw [z]
      grind
  obtain ⟨r, hr, er⟩ := e
  rw [nI_clamp (by omega), er, d256 (by omega), show (r + 256 * g) / 256 = g by omega]
  intro hneg
  cases g with
  | zero => exact absurd (show nI 0 - 1 < 0 by decide) hneg
  | succ g =>
    rw [nI_pred]
    exact vp_in_nI (by omega) (by decide)
theorem L_speed_0 {S : LwS} {i : Nat} {v uj uq : Int32} : L_speed (lset S 0 i v) uj uq = L_speed S uj uq := by
  unfold L_speed
  rw [lset_k (by decide), lset_k (by decide), lset_k (by decide)]
theorem L_min_pre {M : MS} {S S13 : LwS} {np nv t j i : Nat} {x v : Int32} (h : LRR M S np nv) (hI : MI M np nv t) (hj : j < nv) (hx : ∃ q : Nat, q < np ∧ x = nI q) (e13 : S13 = lset S 0 i v) : rng (S13 1 x.toNatClampNeg / 64) 1 300 ∧ rng (S13 4 (24 + (nI j).toNatClampNeg)) 1 300 ∧ ¬ 6 * L_speed S13 (nI j) x = 0 := by
  have hn := h.1
  have hv := h.2.1
  obtain ⟨q, hq, rfl⟩ := hx
  obtain ⟨s1, s2, s3⟩ := MI_spd' hI hj hq
  rw [nI_clamp (by omega)] at s1 s2
  rw [e13, L_speed_0, lset_k (by decide), lset_k (by decide), nI_clamp (by omega), nI_clamp (by omega), (h.p hq).lim, (h.x hj).2.2.2.1]
  exact ⟨s2, s1, L_spd_ne h hI hq hj⟩
theorem rng_min {a b x : Int32} (e : x = if a ≤ b then a else b) (ha : rng a 1 300) (hb : rng b 1 300) : rng x 1 300 := by
  rw [e]
  split
  · exact ha
  · exact hb
