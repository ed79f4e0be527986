/-! ===== the list grows: a new element array, add ===== -/
theorem fI.rekey {D : va_G} {A : Nat → Prop} {H0 : Heap} {w w' : WD} {H : Heap} {locs : List Loc} (h : fI D A H0 w H locs) (r : Nat → Nat → Nat × Nat) (hr : ∀ k i q, w' k i = some q → w (r k i).1 (r k i).2 = some q) (hj : ∀ k i k' i' q q', w' k i = some q → w' k' i' = some q' → r k i = r k' i' → k = k' ∧ i = i') : fI D A H0 w' H locs :=
  ⟨fun k i q hq => h.1 _ _ q (hr k i q hq), ⟨fun k i k' i' q q' a b c => hj k i k' i' q q' a b (by
    obtain ⟨e1, e2⟩ := h.2.1.1 _ _ _ _ q q' (hr _ _ _ a) (hr _ _ _ b) c
    exact Prod.ext e1 e2), fun k i q hq => h.2.1.2 _ _ q (hr _ _ _ hq)⟩, h.2.2.1, h.2.2.2⟩
/-- the room after growing -/
def gc (P : Nat) : Nat := if P = 0 then 10 else P + (if 1 < P / 2 then P / 2 else 1)
theorem gc_sub : ∀ P, P < 769 → nI (P + 1) - nI P = 1 := by decide +kernel
theorem gc_shr : ∀ P, P < 769 → nI P >>> ((1 : Int32) &&& 31) = nI (P / 2) := by decide +kernel
theorem gc_max : ∀ P, P < 769 → ¬ P = 0 → nI P + (if (1 : Int32) < nI (P / 2) then nI (P / 2) else 1) = nI (gc P) := by decide +kernel
theorem gc_pos : ∀ P, P < 769 → ¬ nI (gc P) ≤ 0 ∧ ¬ (2147483639 : Int32) < nI (gc P) := by decide +kernel
theorem gc_le {P : Nat} (h : P ≤ 512) : gc P ≤ 768 := by
  unfold gc
  split
  · omega
  · split <;> omega
theorem gc_gt {P : Nat} : P < gc P := by
  unfold gc
  split
  · omega
  · split <;> omega
abbrev aQ (T : Nat → ClassId) (n : Nat) (f : Nat → Option Nat) : va_E := .inl (T 4, n, .inr (.inr (.inr (.inr f))))
def zP (Z : XZ) (li h : Nat) : XZ := (fun k' i' => if k' = 7 ∧ i' = li then h else Z.A k' i', Z.O, Z.N, fun i => if i = li then gc (Z.P li) else Z.P i)
def zN (Z : XZ) (li : Nat) : XZ := (Z.A, Z.O, fun i => if i = li then Z.N li + 1 else Z.N i, Z.P)
theorem zP_A {Z : XZ} {li h k i : Nat} (q : ¬ (k = 7 ∧ i = li)) : (zP Z li h).A k i = Z.A k i := if_neg q
theorem zP_As {Z : XZ} {li h : Nat} : (zP Z li h).A 7 li = h := if_pos ⟨rfl, rfl⟩
theorem zP_P {Z : XZ} {li h i : Nat} (q : i ≠ li) : (zP Z li h).P i = Z.P i := if_neg q
theorem zP_Ps {Z : XZ} {li h : Nat} : (zP Z li h).P li = gc (Z.P li) := if_pos rfl
theorem zP_El {Z : XZ} {li h i : Nat} : i < 3 → xEl (zP Z li h) i = xEl Z i := fun hi => by
  funext j
  unfold xEl
  show ite (j < Z.N i) _ _ = _
  rw [zP_A (fun w => by omega)]
/-- elsewhere the grown world is the former one -/
theorem zP_else {T : Nat → ClassId} {z : Nat} {Z : XZ} {S : XS} {li h k i : Nat} (q7 : ¬ (k = 7 ∧ i = li)) (q6 : ¬ (k = 6 ∧ i = li)) : xW T z (zP Z li h) S k i = xW T z Z S k i := by
  have hA : ∀ a b, a ≠ 7 → (zP Z li h).A a b = Z.A a b := fun a b a1 => zP_A (fun w => a1 w.1)
  unfold xW
  split
  · simp only [xF0, hA 6 _ (by decide), hA 5 _ (by decide), hA 0 _ (by decide)]
  · rw [hA 1 _ (by decide)]
    rfl
  · simp only [xF2, hA 2 _ (by decide), show (zP Z li h).A 3 = Z.A 3 from funext fun b => hA 3 b (by decide)]
    rfl
  · rw [hA 3 _ (by decide)]
    rfl
  · rw [hA 5 _ (by decide)]
  · have e : i ≠ li := fun w => q6 ⟨rfl, w⟩
    simp only [xF6, hA 6 _ (by decide), zP_A (Z := Z) (h := h) (fun w : 7 = 7 ∧ i = li => e w.2), zP_P (Z := Z) (h := h) e]
    rfl
  · have e : i ≠ li := fun w => q7 ⟨rfl, w⟩
    simp only [zP_A (Z := Z) (h := h) q7, zP_P (Z := Z) (h := h) e]
    by_cases hi : i < 3 ∧ ¬ Z.P i = 0
    · rw [if_pos hi, if_pos hi, zP_El hi.1]
    · rw [if_neg hi, if_neg hi]
  · rfl
theorem zP_done {D : va_G} {A : Nat → Prop} {H0 H : Heap} {locs : List Loc} {T : Nat → ClassId} {z : Nat} {Z : XZ} {S : XS} {li h : Nat} {g : Nat → Option Nat} (hli : li < 3) (hg : g = xEl Z li) (hI : fI D A H0 (fU (fU (xW T z Z S) 9 0 (h, aQ T (gc (Z.P li)) g)) 6 li (Z.A 6 li, .inr (0, (xF6 z Z li (S.1 6 li)).set 1 (.ref h)))) H locs) : fI D A H0 (xW T z (zP Z li h) S) H locs := by
  have gp : ¬ gc (Z.P li) = 0 := by have := gc_gt (P := Z.P li); omega
  have h9 : ∀ i, xW T z (zP Z li h) S 9 i = none := fun i => rfl
  refine hI.rekey (fun k i => if k = 7 ∧ i = li then (9, 0) else (k, i)) (fun k i q hq => ?_) (fun k i k' i' q q' a b c => ?_)
  · by_cases q7 : k = 7 ∧ i = li
    · obtain ⟨rfl, rfl⟩ := q7
      simp only [and_self, if_true]
      rw [fU_ne (by omega), fU_same]
      rw [xW7 ⟨hli, by rw [zP_Ps]; exact gp⟩, zP_As, zP_Ps, zP_El hli] at hq
      rw [hg]
      exact hq
    · simp only [if_neg q7]
      by_cases q6 : k = 6 ∧ i = li
      · obtain ⟨rfl, rfl⟩ := q6
        rw [fU_same]
        rw [xW6 hli, zP_A (fun w => by omega)] at hq
        rw [← hq]
        simp only [xF6, zP_Ps, if_neg gp, zP_As]
        rfl
      · rw [fU_ne q6]
        rw [zP_else q7 q6] at hq
        have k9 : k ≠ 9 := fun w => by subst w; cases hq
        rw [fU_ne (fun w => k9 w.1)]
        exact hq
  · have n9 : ∀ k i q, xW T z (zP Z li h) S k i = some q → k ≠ 9 := fun k i q w e => by subst e; cases w
    have a9 := n9 _ _ _ a
    have b9 := n9 _ _ _ b
    by_cases q7 : k = 7 ∧ i = li
    · by_cases q8 : k' = 7 ∧ i' = li
      · exact ⟨q7.1.trans q8.1.symm, q7.2.trans q8.2.symm⟩
      · rw [if_pos q7, if_neg q8] at c
        exact absurd (congrArg Prod.fst c).symm b9
    · by_cases q8 : k' = 7 ∧ i' = li
      · rw [if_neg q7, if_pos q8] at c
        exact absurd (congrArg Prod.fst c) a9
      · rw [if_neg q7, if_neg q8] at c
        exact ⟨congrArg Prod.fst c, congrArg Prod.snd c⟩
/-- an entry more in the list -/
theorem zN_done {T : Nat → ClassId} {z : Nat} {Z : XZ} {S : XS} {li : Nat} (hli : li < 3) (hP : ¬ Z.P li = 0) : fU (fU (xW T z Z S) 7 li (Z.A 7 li, aQ T (Z.P li) (va_up (xEl Z li) (Z.N li) (some (Z.A (li + 1) (Z.N li)))))) 6 li (Z.A 6 li, .inr (0, (xF6 z Z li (S.1 6 li)).set 2 (.int (nI (Z.N li + 1))))) = xW T z (zN Z li) S := by
  funext k i
  have zs : (zN Z li).N li = Z.N li + 1 := if_pos rfl
  by_cases q6 : k = 6 ∧ i = li
  · obtain ⟨rfl, rfl⟩ := q6
    rw [fU_same, xW6 hli]
    simp only [xF6, zs]
    rfl
  · rw [fU_ne q6]
    by_cases q7 : k = 7 ∧ i = li
    · obtain ⟨rfl, rfl⟩ := q7
      rw [fU_same, xW7 (Z := zN Z i) ⟨hli, hP⟩]
      have e : va_up (xEl Z i) (Z.N i) (some (Z.A (i + 1) (Z.N i))) = xEl (zN Z i) i := by
        funext j
        unfold xEl
        rw [zs]
        unfold va_up
        by_cases hj : j = Z.N i
        · subst hj
          rw [if_pos rfl, if_pos (Nat.lt_succ_self _)]
          rfl
        · rw [if_neg hj]
          show ite (j < Z.N i) _ _ = ite (j < Z.N i + 1) _ _
          by_cases hl : j < Z.N i
          · rw [if_pos hl, if_pos (by omega)]
            rfl
          · rw [if_neg hl, if_neg (by omega)]
      rw [e]
      rfl
    · rw [fU_ne q7]
      unfold xW
      split
      · rfl
      · rfl
      · rfl
      · rfl
      · rfl
      · have e : i ≠ li := fun w => q6 ⟨rfl, w⟩
        have e2 : (zN Z li).N i = Z.N i := if_neg e
        simp only [xF6, e2]
        rfl
      · have e : i ≠ li := fun w => q7 ⟨rfl, w⟩
        have e2 : (zN Z li).N i = Z.N i := if_neg e
        have e3 : xEl (zN Z li) i = xEl Z i := by
          funext j
          unfold xEl
          rw [e2]
          rfl
        rw [e3]
        rfl
      · rfl
