/-! ===== a vehicle comes onto a piece, leaves it, is unloaded ===== -/
theorem RXN_on {Z : XZ} {S : XS} {M : MS} {t j p fb : Nat} {ov : Int32} (h : RXN Z S M t) (hj : j < Z.N 1) (hp : p < Z.N 0) (hn : ¬ M.1 20 j = 1) (hat : M.1 21 j = nI p) (hb : (fb = 12 ∧ M.1 22 j = 0) ∨ (fb = 11 ∧ M.1 22 j = 1)) : RXN Z (xset (xset (xset (xset S 2 j 3 1) 2 j 6 ov) 1 p 13 (S.1 1 p 13 + (M.1 17 j + M.1 24 j))) 1 p fb (S.1 1 p fb + 1)) (mset (mset M 20 j 1) 23 j ov) t := by
  have hnp := h.np
  have m : ∀ k, k ≠ 20 → k ≠ 23 → (mset (mset M 20 j 1) 23 j ov).1 k = M.1 k := fun k a b => (mset_k b).trans (mset_k a)
  have m20 : (mset (mset M 20 j 1) 23 j ov).1 20 j = 1 := (congrFun (mset_k (by decide)) j).trans mset_s
  have mo : ∀ k i, i ≠ j → (mset (mset M 20 j 1) 23 j ov).1 k i = M.1 k i := fun k i hi => (mset_j hi).trans (mset_j hi)
  generalize hM : mset (mset M 20 j 1) 23 j ov = M' at m m20 mo
  have mk : M'.2 = M.2 := by rw [← hM]; rfl
  have m23 : M'.1 23 j = ov := by rw [← hM, mset_s]
  have sv : ∀ f, f ≠ 3 → f ≠ 6 → (xset (xset (xset (xset S 2 j 3 1) 2 j 6 ov) 1 p 13 (S.1 1 p 13 + (M.1 17 j + M.1 24 j))) 1 p fb (S.1 1 p fb + 1)).1 2 j f = S.1 2 j f := fun f a b => by
    rw [xset_n (by omega), xset_n (by omega), xset_n (by omega), xset_n (by omega)]
  have sv3 : (xset (xset (xset (xset S 2 j 3 1) 2 j 6 ov) 1 p 13 (S.1 1 p 13 + (M.1 17 j + M.1 24 j))) 1 p fb (S.1 1 p fb + 1)).1 2 j 3 = 1 := by
    rw [xset_n (by omega), xset_n (by omega), xset_n (by omega), xset_s]
  have sv6 : (xset (xset (xset (xset S 2 j 3 1) 2 j 6 ov) 1 p 13 (S.1 1 p 13 + (M.1 17 j + M.1 24 j))) 1 p fb (S.1 1 p fb + 1)).1 2 j 6 = ov := by
    rw [xset_n (by omega), xset_n (by omega), xset_s]
  have sp : ∀ f, f ≠ 13 → f ≠ fb → (xset (xset (xset (xset S 2 j 3 1) 2 j 6 ov) 1 p 13 (S.1 1 p 13 + (M.1 17 j + M.1 24 j))) 1 p fb (S.1 1 p fb + 1)).1 1 p f = S.1 1 p f := fun f a b => by
    rw [xset_n (by omega), xset_n (by omega), xset_n (by omega), xset_n (by omega)]
  have sp13 : (xset (xset (xset (xset S 2 j 3 1) 2 j 6 ov) 1 p 13 (S.1 1 p 13 + (M.1 17 j + M.1 24 j))) 1 p fb (S.1 1 p fb + 1)).1 1 p 13 = S.1 1 p 13 + (M.1 17 j + M.1 24 j) := by
    rw [xset_n (by omega), xset_s]
  have spb : (xset (xset (xset (xset S 2 j 3 1) 2 j 6 ov) 1 p 13 (S.1 1 p 13 + (M.1 17 j + M.1 24 j))) 1 p fb (S.1 1 p fb + 1)).1 1 p fb = S.1 1 p fb + 1 := xset_s
  have so : ∀ k i, ¬ (k = 1 ∧ i = p) → ¬ (k = 2 ∧ i = j) → (xset (xset (xset (xset S 2 j 3 1) 2 j 6 ov) 1 p 13 (S.1 1 p 13 + (M.1 17 j + M.1 24 j))) 1 p fb (S.1 1 p fb + 1)).1 k i = S.1 k i := fun k i a b => by
    rw [xset_k a, xset_k a, xset_k b, xset_k b]
  have ss : (xset (xset (xset (xset S 2 j 3 1) 2 j 6 ov) 1 p 13 (S.1 1 p 13 + (M.1 17 j + M.1 24 j))) 1 p fb (S.1 1 p fb + 1)).2 = S.2 := rfl
  generalize (xset (xset (xset (xset S 2 j 3 1) 2 j 6 ov) 1 p 13 (S.1 1 p 13 + (M.1 17 j + M.1 24 j))) 1 p fb (S.1 1 p fb + 1)) = S' at sv sv3 sv6 sp sp13 spb so ss ⊢
  have e := h.p hp
  have ev := h.v hj
  have so1 : ∀ k, k ≠ 1 → k ≠ 2 → S'.1 k = S.1 k := fun k a b => funext fun i => so k i (fun z => a z.1) (fun z => b z.1)
  refine RXN_go (p := p) (j := j) h (Or.inl hp) (Or.inl hj) (so1 0 (by decide) (by decide)) (fun q hq => so 1 q (fun z => hq z.2) (by omega)) (fun i hi => so 2 i (by omega) (fun z => hi z.2)) (fun c _ => so 3 c (by omega) (by omega)) (fun q _ => by rw [ss]) (fun i _ => by rw [ss]) (fun k i _ _ _ hk _ => ?_) (fun q _ => by rw [mk]) (fun _ => ?_) (fun _ => ?_) (fun g hg => RG_eq (h.g hg) (so1 5 (by decide) (by decide)) (so1 3 (by decide) (by decide)) (m 26 (by decide) (by decide)) (m 27 (by decide) (by decide)) (m 28 (by decide) (by decide))) (Or.inr (by rw [ss])) (fun _ q hq hqn => ⟨fun z => hn z.1, fun z => ?_⟩)
  · by_cases c : i = j
    · subst c
      rw [m k (by omega) (by omega)]
    · exact mo k i c
  · have i0 : ∀ b, iOn M p b j = 0 := fun b => if_neg (fun z => hn z.1)
    have i1 : ∀ b, iOn M' p b j = if M.1 22 j = b then 1 else 0 := fun b => by
      unfold iOn
      rw [m20, m 21 (by decide) (by decide), hat, m 22 (by decide) (by decide)]
      simp
    have c : ∀ b, cntOn M' p b (Z.N 1) = cntOn M p b (Z.N 1) + (if M.1 22 j = b then 1 else 0) := fun b => by
      have q := cntOn_one (M := M) (M' := M') (p := p) (j := j) (b := b) (Z.N 1) hj (fun i _ hi => by unfold iOn; rw [mo 20 i hi, mo 21 i hi, mo 22 i hi])
      rw [i0, i1] at q
      omega
    have w : M_weights_f M' (nI p) (Z.N 1) = M_weights_f M (nI p) (Z.N 1) + (M.1 17 j + M.1 24 j) := by
      rw [wts_one (M := M) (M' := M') (p := p) (j := j) (Z.N 1) h.nv hj (fun i _ hi => by unfold wOn; rw [mo 20 i hi, mo 21 i hi, mo 17 i hi, mo 24 i hi])]
      have w0 : wOn M p j = 0 := if_neg hn
      have w1 : wOn M' p j = M.1 17 j + M.1 24 j := by
        unfold wOn
        rw [if_pos m20, m 21 (by decide) (by decide), if_pos hat, m 17 (by decide) (by decide), m 24 (by decide) (by decide)]
      rw [w0, w1, Int32.sub_zero]
    refine RP.mk ?_ ?_ ?_ (fun f a3 a9 => ?_) (by rw [ss, mk]; exact e.k) ?_ ?_ ?_ ?_ ?_
    · rw [sp 0 (by omega) (by omega), m 4 (by decide) (by decide)]; exact e.1
    · rw [sp 1 (by omega) (by omega), m 5 (by decide) (by decide)]; exact e.2.1
    · rw [sp 2 (by omega) (by omega), m 6 (by decide) (by decide)]; exact e.2.2.1
    · rw [sp f (by omega) (by omega), m (f + 4) (by omega) (by omega)]; exact e.f f a3 a9
    · rw [c]
      rcases hb with ⟨rfl, hb⟩ | ⟨rfl, hb⟩
      · rw [sp 11 (by omega) (by omega), if_neg (by rw [hb]; decide)]; exact e.c1
      · rw [spb, if_pos hb, e.c1, nI_1]
    · rw [c]
      rcases hb with ⟨rfl, hb⟩ | ⟨rfl, hb⟩
      · rw [spb, if_pos hb, e.c0, nI_1]
      · rw [sp 12 (by omega) (by omega), if_neg (by rw [hb]; decide)]; exact e.c0
    · rw [sp13, w, e.w]
    · rw [sp 14 (by omega) (by omega), m 15 (by decide) (by decide)]; exact e.t1
    · rw [sp 15 (by omega) (by omega), m 15 (by decide) (by decide)]; exact e.t0
  · refine ⟨?_, ?_, ?_, by rw [sv3, m20], ?_, ?_, fun _ => by rw [sv6, m23], ?_⟩
    · rw [sv 0 (by decide) (by decide), m 17 (by decide) (by decide)]; exact ev.1
    · rw [sv 1 (by decide) (by decide), m 18 (by decide) (by decide)]; exact ev.2.1
    · rw [sv 2 (by decide) (by decide), m 19 (by decide) (by decide)]; exact ev.2.2.1
    · rw [sv 4 (by decide) (by decide), m 21 (by decide) (by decide)]; exact ev.2.2.2.2.1
    · rw [sv 5 (by decide) (by decide), m 22 (by decide) (by decide)]; exact ev.2.2.2.2.2.1
    · rw [ss, so1 3 (by decide) (by decide), m 24 (by decide) (by decide), m 25 (by decide) (by decide)]; exact ev.2.2.2.2.2.2.2
  · rw [m 21 (by decide) (by decide), hat] at z
    exact hq ((nI_eq (by omega) (by omega)).mp z.2).symm
theorem RXN_off {Z : XZ} {S : XS} {M : MS} {t j p fb : Nat} (h : RXN Z S M t) (hj : j < Z.N 1) (hp : p < Z.N 0) (hn : M.1 20 j = 1) (hat : M.1 21 j = nI p) (hb : (fb = 12 ∧ M.1 22 j = 0) ∨ (fb = 11 ∧ M.1 22 j = 1)) : RXN Z (xset (xset (xset S 1 p 13 (S.1 1 p 13 - (M.1 17 j + M.1 24 j))) 1 p fb (S.1 1 p fb - 1)) 2 j 3 2) (mset M 20 j 2) t := by
  have hnp := h.np
  have m : ∀ k, k ≠ 20 → (mset M 20 j 2).1 k = M.1 k := fun k a => mset_k a
  have m20 : (mset M 20 j 2).1 20 j = 2 := mset_s
  have mo : ∀ k i, i ≠ j → (mset M 20 j 2).1 k i = M.1 k i := fun k i hi => mset_j hi
  have hn' : ¬ (mset M 20 j 2).1 20 j = 1 := by rw [m20]; decide
  generalize hM : mset M 20 j 2 = M' at m m20 mo hn'
  have mk : M'.2 = M.2 := by rw [← hM]; rfl
  have sv : ∀ f, f ≠ 3 → (xset (xset (xset S 1 p 13 (S.1 1 p 13 - (M.1 17 j + M.1 24 j))) 1 p fb (S.1 1 p fb - 1)) 2 j 3 2).1 2 j f = S.1 2 j f := fun f a => by
    rw [xset_n (by omega), xset_n (by omega), xset_n (by omega)]
  have sv3 : (xset (xset (xset S 1 p 13 (S.1 1 p 13 - (M.1 17 j + M.1 24 j))) 1 p fb (S.1 1 p fb - 1)) 2 j 3 2).1 2 j 3 = 2 := xset_s
  have sp : ∀ f, f ≠ 13 → f ≠ fb → (xset (xset (xset S 1 p 13 (S.1 1 p 13 - (M.1 17 j + M.1 24 j))) 1 p fb (S.1 1 p fb - 1)) 2 j 3 2).1 1 p f = S.1 1 p f := fun f a b => by
    rw [xset_n (by omega), xset_n (by omega), xset_n (by omega)]
  have sp13 : (xset (xset (xset S 1 p 13 (S.1 1 p 13 - (M.1 17 j + M.1 24 j))) 1 p fb (S.1 1 p fb - 1)) 2 j 3 2).1 1 p 13 = S.1 1 p 13 - (M.1 17 j + M.1 24 j) := by
    rw [xset_n (by omega), xset_n (by omega), xset_s]
  have spb : (xset (xset (xset S 1 p 13 (S.1 1 p 13 - (M.1 17 j + M.1 24 j))) 1 p fb (S.1 1 p fb - 1)) 2 j 3 2).1 1 p fb = S.1 1 p fb - 1 := by
    rw [xset_n (by omega), xset_s]
  have so : ∀ k i, ¬ (k = 1 ∧ i = p) → ¬ (k = 2 ∧ i = j) → (xset (xset (xset S 1 p 13 (S.1 1 p 13 - (M.1 17 j + M.1 24 j))) 1 p fb (S.1 1 p fb - 1)) 2 j 3 2).1 k i = S.1 k i := fun k i a b => by
    rw [xset_k b, xset_k a, xset_k a]
  have ss : (xset (xset (xset S 1 p 13 (S.1 1 p 13 - (M.1 17 j + M.1 24 j))) 1 p fb (S.1 1 p fb - 1)) 2 j 3 2).2 = S.2 := rfl
  generalize (xset (xset (xset S 1 p 13 (S.1 1 p 13 - (M.1 17 j + M.1 24 j))) 1 p fb (S.1 1 p fb - 1)) 2 j 3 2) = S' at sv sv3 sp sp13 spb so ss ⊢
  have e := h.p hp
  have ev := h.v hj
  have so1 : ∀ k, k ≠ 1 → k ≠ 2 → S'.1 k = S.1 k := fun k a b => funext fun i => so k i (fun z => a z.1) (fun z => b z.1)
  refine RXN_go (p := p) (j := j) h (Or.inl hp) (Or.inl hj) (so1 0 (by decide) (by decide)) (fun q hq => so 1 q (fun z => hq z.2) (by omega)) (fun i hi => so 2 i (by omega) (fun z => hi z.2)) (fun c _ => so 3 c (by omega) (by omega)) (fun q _ => by rw [ss]) (fun i _ => by rw [ss]) (fun k i _ _ _ hk _ => ?_) (fun q _ => by rw [mk]) (fun _ => ?_) (fun _ => ?_) (fun g hg => RG_eq (h.g hg) (so1 5 (by decide) (by decide)) (so1 3 (by decide) (by decide)) (m 26 (by decide)) (m 27 (by decide)) (m 28 (by decide))) (Or.inr (by rw [ss])) (fun _ q hq hqn => ⟨fun z => ?_, fun z => hn' z.1⟩)
  · by_cases c : i = j
    · subst c
      rw [m k (by omega)]
    · exact mo k i c
  · have i0 : ∀ b, iOn M' p b j = 0 := fun b => if_neg (fun z => hn' z.1)
    have i1 : ∀ b, iOn M p b j = if M.1 22 j = b then 1 else 0 := fun b => by
      unfold iOn
      rw [hn, hat]
      simp
    have c : ∀ b, cntOn M' p b (Z.N 1) + (if M.1 22 j = b then 1 else 0) = cntOn M p b (Z.N 1) := fun b => by
      have q := cntOn_one (M := M) (M' := M') (p := p) (j := j) (b := b) (Z.N 1) hj (fun i _ hi => by unfold iOn; rw [mo 20 i hi, mo 21 i hi, mo 22 i hi])
      rw [i0, i1] at q
      omega
    have w : M_weights_f M' (nI p) (Z.N 1) = M_weights_f M (nI p) (Z.N 1) - (M.1 17 j + M.1 24 j) := by
      rw [wts_one (M := M) (M' := M') (p := p) (j := j) (Z.N 1) h.nv hj (fun i _ hi => by unfold wOn; rw [mo 20 i hi, mo 21 i hi, mo 17 i hi, mo 24 i hi])]
      have w0 : wOn M' p j = 0 := if_neg hn'
      have w1 : wOn M p j = M.1 17 j + M.1 24 j := by
        unfold wOn
        rw [if_pos hn, if_pos hat]
      rw [w0, w1, Int32.add_zero]
    refine RP.mk ?_ ?_ ?_ (fun f a3 a9 => ?_) (by rw [ss, mk]; exact e.k) ?_ ?_ ?_ ?_ ?_
    · rw [sp 0 (by omega) (by omega), m 4 (by decide)]; exact e.1
    · rw [sp 1 (by omega) (by omega), m 5 (by decide)]; exact e.2.1
    · rw [sp 2 (by omega) (by omega), m 6 (by decide)]; exact e.2.2.1
    · rw [sp f (by omega) (by omega), m (f + 4) (by omega)]; exact e.f f a3 a9
    · have q := c 1
      rcases hb with ⟨rfl, hb⟩ | ⟨rfl, hb⟩
      · rw [sp 11 (by omega) (by omega), e.c1]
        rw [if_neg (by rw [hb]; decide)] at q
        rw [← q]
        rfl
      · rw [spb, e.c1]
        rw [if_pos hb] at q
        rw [← q, nI_pred]
    · have q := c 0
      rcases hb with ⟨rfl, hb⟩ | ⟨rfl, hb⟩
      · rw [spb, e.c0]
        rw [if_pos hb] at q
        rw [← q, nI_pred]
      · rw [sp 12 (by omega) (by omega), e.c0]
        rw [if_neg (by rw [hb]; decide)] at q
        rw [← q]
        rfl
    · rw [sp13, w, e.w]
    · rw [sp 14 (by omega) (by omega), m 15 (by decide)]; exact e.t1
    · rw [sp 15 (by omega) (by omega), m 15 (by decide)]; exact e.t0
  · refine ⟨?_, ?_, ?_, by rw [sv3, m20], ?_, ?_, fun z => absurd z hn', ?_⟩
    · rw [sv 0 (by decide), m 17 (by decide)]; exact ev.1
    · rw [sv 1 (by decide), m 18 (by decide)]; exact ev.2.1
    · rw [sv 2 (by decide), m 19 (by decide)]; exact ev.2.2.1
    · rw [sv 4 (by decide), m 21 (by decide)]; exact ev.2.2.2.2.1
    · rw [sv 5 (by decide), m 22 (by decide)]; exact ev.2.2.2.2.2.1
    · rw [ss, so1 3 (by decide) (by decide), m 24 (by decide), m 25 (by decide)]; exact ev.2.2.2.2.2.2.2
  · rw [hat] at z
    exact hq ((nI_eq (by omega) (by omega)).mp z.2).symm
