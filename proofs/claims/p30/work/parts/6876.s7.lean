/-! ===== unloading ===== -/
/-- the kilos in the first n vehicles -/
def car (M : MS) : Nat → Int
  | 0 => 0
  | n + 1 => car M n + (M.1 24 n).toInt
/-- what is at the mine, and what is on the way, is no more than the loads could bring -/
def BI (M : MS) (nv t : Nat) : Prop := ∀ g, g < 3 → 0 ≤ (M.1 27 g).toInt ∧ (M.1 27 g).toInt + car M nv ≤ 60000 * t
theorem car_eq {M M' : MS} : ∀ n, (∀ i, i < n → M'.1 24 i = M.1 24 i) → car M' n = car M n
  | 0, _ => rfl
  | n + 1, h => by
    show car M' n + (M'.1 24 n).toInt = car M n + (M.1 24 n).toInt
    rw [car_eq n (fun i hi => h i (by omega)), h n (by omega)]
theorem car_one {M M' : MS} {j : Nat} : ∀ n, j < n → (∀ i, i < n → i ≠ j → M'.1 24 i = M.1 24 i) → car M' n + (M.1 24 j).toInt = car M n + (M'.1 24 j).toInt
  | 0, hj, _ => absurd hj (Nat.not_lt_zero _)
  | n + 1, hj, h => by
    show car M' n + (M'.1 24 n).toInt + (M.1 24 j).toInt = car M n + (M.1 24 n).toInt + (M'.1 24 j).toInt
    by_cases c : j = n
    · subst c
      have e := car_eq (M := M) (M' := M') j (fun i hi => h i (by omega) (by omega))
      omega
    · have e1 := car_one n (by omega) (fun i hi hn => h i (by omega) hn)
      have e2 := h n (by omega) (fun z => c z.symm)
      rw [e2]
      omega
theorem car_0 {M : MS} : ∀ n, (∀ i, i < n → 0 ≤ (M.1 24 i).toInt) → 0 ≤ car M n
  | 0, _ => Int.le_refl _
  | n + 1, h => by
    show 0 ≤ car M n + (M.1 24 n).toInt
    have e1 := car_0 n (fun i hi => h i (by omega))
    have e2 := h n (by omega)
    omega
theorem car_ge {M : MS} {j : Nat} : ∀ n, (∀ i, i < n → 0 ≤ (M.1 24 i).toInt) → j < n → (M.1 24 j).toInt ≤ car M n
  | 0, _, hj => absurd hj (Nat.not_lt_zero _)
  | n + 1, h, hj => by
    show _ ≤ car M n + (M.1 24 n).toInt
    by_cases c : j = n
    · subst c
      have := car_0 j (fun i hi => h i (by omega))
      omega
    · have e1 := car_ge n (fun i hi => h i (by omega)) (show j < n by omega)
      have e2 := h n (by omega)
      omega
theorem BI_eq {M M' : MS} {nv t : Nat} (h : BI M nv t) (e4 : M'.1 24 = M.1 24) (e7 : M'.1 27 = M.1 27) : BI M' nv t := by
  intro g hg
  have := h g hg
  rw [e7, car_eq (M := M) (M' := M') nv (fun i _ => by rw [e4])]
  exact this
theorem BI_t {M : MS} {nv t : Nat} (h : BI M nv t) : BI M nv (t + 1) := fun g hg => ⟨(h g hg).1, by have := (h g hg).2; omega⟩
theorem i32_addr {a b : Int32} (h0 : -2147483648 ≤ a.toInt + b.toInt) (h1 : a.toInt + b.toInt < 2147483648) : (a + b).toInt = a.toInt + b.toInt := by
  rw [Int32.toInt_add, Int.bmod_eq_of_le (by omega) (by omega)]
def lOn (S : XS) (g : Int32) (n : Nat) : Int32 := if S.1 3 n 0 = g ∧ S.1 3 n 2 = 0 then S.1 3 n 1 else 0
theorem sumLd_n {S S' : XS} {g : Int32} : ∀ n, (∀ i, i < n → lOn S' g i = lOn S g i) → sumLd S' g n = sumLd S g n
  | 0, _ => rfl
  | n + 1, h => by
    show sumLd S' g n + lOn S' g n = sumLd S g n + lOn S g n
    rw [sumLd_n n (fun i hi => h i (by omega)), h n (by omega)]
theorem sumLd_one {S S' : XS} {g : Int32} {c : Nat} : ∀ n, c < n → (∀ i, i < n → i ≠ c → lOn S' g i = lOn S g i) → sumLd S' g n = sumLd S g n - lOn S g c + lOn S' g c
  | 0, hj, _ => absurd hj (Nat.not_lt_zero _)
  | n + 1, hj, h => by
    show sumLd S' g n + lOn S' g n = sumLd S g n + lOn S g n - lOn S g c + lOn S' g c
    by_cases q : c = n
    · subst q
      rw [sumLd_n (S := S) (S' := S') c (fun i hi => h i (by omega) (by omega))]
      grind
    · rw [sumLd_one n (by omega) (fun i hi hn => h i (by omega) hn), h n (by omega) (fun z => q z.symm)]
      grind
theorem X_unl_0 {Z : XZ} {S : XS} {j : Nat} (hc : S.2.2 j = 0) : X_unload Z S j = xcset S j 0 := by
  unfold X_unload
  dsimp only
  rw [if_pos hc]
theorem X_unl_y {Z : XZ} {S : XS} {j g0 : Nat} (hc : ¬ S.2.2 j = 0) (e0 : S.1 3 (S.2.2 j - 1) 0 = nI g0) (hg : g0 < 3) (hw : S.1 2 j 3 = 3) : X_unload Z S j = xset (xcset S j 0) 5 4 g0 (S.1 5 4 g0 + S.1 3 (S.2.2 j - 1) 1) := by
  unfold X_unload
  dsimp only
  have e1 : (xcset S j 0).1 = S.1 := rfl
  rw [if_neg hc, e1, e0, if_neg (nI_pos (by omega)), if_pos (show nI g0 < 3 from nI_lt hg (by decide)), if_pos hw, nI_clamp (by omega)]
theorem X_unl_n {Z : XZ} {S : XS} {j g0 : Nat} (hc : ¬ S.2.2 j = 0) (e0 : S.1 3 (S.2.2 j - 1) 0 = nI g0) (hg : g0 < 3) (hw : ¬ S.1 2 j 3 = 3) : X_unload Z S j = xset (xset (xcset S j 0) 5 3 g0 (S.1 5 3 g0 - S.1 3 (S.2.2 j - 1) 1)) 3 (S.2.2 j - 1) 2 1 := by
  unfold X_unload
  dsimp only
  have e1 : (xcset S j 0).1 = S.1 := rfl
  rw [if_neg hc, e1, e0, if_neg (nI_pos (by omega)), if_pos (show nI g0 < 3 from nI_lt hg (by decide)), if_neg hw, nI_clamp (by omega)]
theorem M_unl_0 {M : MS} {j : Nat} {ub : Int32} (hj : j < 2 ^ 31) (h : M.1 24 j ≤ 0) : M_unloads M (nI j) ub = mset (mset M 24 j 0) 25 j (-1) := by
  unfold M_unloads
  simp only [nI_clamp hj, if_pos h]
theorem M_unl_y {M : MS} {j g0 : Nat} {ub : Int32} (hj : j < 2 ^ 31) (h : ¬ M.1 24 j ≤ 0) (eg : M.1 25 j = nI g0) (hg : g0 < 3) (hu : ¬ ub = 0) : M_unloads M (nI j) ub = mset (mset (mset (mset M 27 g0 (M.1 27 g0 + M.1 24 j)) 26 g0 (M.1 26 g0 - 0)) 24 j 0) 25 j (-1) := by
  unfold M_unloads
  have a : nI g0 = nI g0 := rfl
  simp only [nI_clamp hj, if_neg h, if_neg hu, mset_k (show (25 : Nat) ≠ 27 by decide), mset_k (show (26 : Nat) ≠ 27 by decide), eg, nI_clamp (show g0 < 2 ^ 31 by omega)]
theorem M_unl_n {M : MS} {j g0 : Nat} {ub : Int32} (hj : j < 2 ^ 31) (h : ¬ M.1 24 j ≤ 0) (eg : M.1 25 j = nI g0) (hg : g0 < 3) (hu : ub = 0) : M_unloads M (nI j) ub = mset (mset (mset (mset M 27 g0 (M.1 27 g0 + 0)) 26 g0 (M.1 26 g0 - M.1 24 j)) 24 j 0) 25 j (-1) := by
  unfold M_unloads
  simp only [nI_clamp hj, if_neg h, if_pos hu, mset_k (show (25 : Nat) ≠ 27 by decide), mset_k (show (26 : Nat) ≠ 27 by decide), mset_k (show (24 : Nat) ≠ 27 by decide), eg, nI_clamp (show g0 < 2 ^ 31 by omega)]
theorem BI_unl {M : MS} {nv t j : Nat} {ub : Int32} (hB : BI M nv t) (hj : j < nv) (hn : nv ≤ 16) (ht : t ≤ 512) (hg : ¬ M.1 24 j ≤ 0 → vp_in (M.1 25 j) 3) (h0 : ∀ i, i < nv → 0 ≤ (M.1 24 i).toInt) : BI (M_unloads M (nI j) ub) nv t := by
  have e24 : (M_unloads M (nI j) ub).1 24 j = 0 := by
    have e := M_unloads_24 (S := M) (v := nI j) (b := ub)
    rw [nI_clamp (by omega)] at e
    exact e
  have eo : ∀ i, i ≠ j → (M_unloads M (nI j) ub).1 24 i = M.1 24 i := fun i hi => M_unloads_j (by rw [nI_clamp (by omega)]; exact hi) (by decide) (by decide)
  have c := car_one (M := M) (M' := M_unloads M (nI j) ub) (j := j) nv hj (fun i _ hi => eo i hi)
  rw [e24, show (0 : Int32).toInt = 0 by decide] at c
  have hj0 := h0 j hj
  have cg := car_ge nv h0 hj
  intro g hgg
  obtain ⟨b1, b2⟩ := hB g hgg
  by_cases k : M.1 24 j ≤ 0
  · have e : (M_unloads M (nI j) ub).1 27 g = M.1 27 g := by
      rw [M_unl_0 (by omega) k, mset_k (by decide), mset_k (by decide)]
    rw [e]
    omega
  · obtain ⟨g0, hg0, eg⟩ := vp_in_of (hg k) (by decide)
    by_cases u : ub = 0
    · have e : (M_unloads M (nI j) ub).1 27 g = M.1 27 g := by
        rw [M_unl_n (by omega) k eg hg0 u, mset_k (by decide), mset_k (by decide), mset_k (by decide)]
        by_cases q : g = g0
        · subst q
          rw [mset_s, Int32.add_zero]
        · rw [mset_j q]
      rw [e]
      omega
    · by_cases q : g = g0
      · subst q
        have e : (M_unloads M (nI j) ub).1 27 g = M.1 27 g + M.1 24 j := by
          rw [M_unl_y (by omega) k eg hg0 u, mset_k (by decide), mset_k (by decide), mset_k (by decide), mset_s]
        rw [e, i32_addr (by omega) (by omega)]
        omega
      · have e : (M_unloads M (nI j) ub).1 27 g = M.1 27 g := by
          rw [M_unl_y (by omega) k eg hg0 u, mset_k (by decide), mset_k (by decide), mset_k (by decide), mset_j q]
        rw [e]
        omega
theorem RXN_unl {Z : XZ} {S : XS} {M : MS} {t j : Nat} {ub : Int32} (h : RXN Z S M t) (hB : BI M (Z.N 1) t) (hj : j < Z.N 1) (ht : t ≤ 512) (hn : ¬ M.1 20 j = 1) (hub : M.1 20 j = 3 ↔ ¬ ub = 0) (hg : ¬ M.1 24 j ≤ 0 → vp_in (M.1 25 j) 3) (h0 : ∀ i, i < Z.N 1 → 0 ≤ (M.1 24 i).toInt) : RXN Z (X_unload Z S j) (M_unloads M (nI j) ub) t := by
  have hnv := h.nv
  have hcj : (nI j).toNatClampNeg = j := nI_clamp (by omega)
  have n10 : ¬ (10 : Nat) < Z.N 0 := by have := h.np; omega
  have ev := h.v hj
  have hw3 : S.1 2 j 3 = M.1 20 j := ev.2.2.2.1
  have hB' := BI_unl (ub := ub) hB hj hnv ht hg h0
  have hrg : ∀ g, g < 3 → rng ((M_unloads M (nI j) ub).1 27 g) 0 (60000 * t) := fun g hgg => by
    obtain ⟨b1, b2⟩ := hB' g hgg
    have c := car_0 (M := M_unloads M (nI j) ub) (Z.N 1) (fun i hi => by
      by_cases q : i = j
      · subst q
        have e := M_unloads_24 (S := M) (v := nI i) (b := ub)
        rw [hcj] at e
        rw [e]
        decide
      · rw [M_unloads_j (by rw [hcj]; exact q) (by decide) (by decide)]
        exact h0 i hi)
    exact ⟨b1, by omega⟩
  rcases ev.2.2.2.2.2.2.2 with ⟨d0, d1, d2⟩ | ⟨d0, d1, d2, d3, d4⟩
  · have k : M.1 24 j ≤ 0 := by rw [d1]; decide
    rw [X_unl_0 d0] 
    rw [M_unl_0 (by omega) k] at hrg ⊢
    have m : ∀ k, k ≠ 24 → k ≠ 25 → (mset (mset M 24 j 0) 25 j (-1)).1 k = M.1 k := fun k a b => (mset_k b).trans (mset_k a)
    refine RXN_go (p := 10) (j := j) h (Or.inr (Nat.le_refl _)) (Or.inl hj) rfl (fun _ _ => rfl) (fun _ _ => rfl) (fun _ _ => rfl) (fun _ _ => rfl) (fun i hi => if_neg hi) (fun k i _ _ _ _ _ => (mset_n (by omega)).trans (mset_n (by omega))) (fun _ _ => rfl) (fun hp => absurd hp n10) (fun _ => ?_) (fun g hgg => RG_eq (h.g hgg) rfl rfl (m 26 (by decide) (by decide)) (m 27 (by decide) (by decide)) (m 28 (by decide) (by decide))) (Or.inl (if_pos rfl)) (fun _ q _ _ => ⟨fun z => hn z.1, fun z => hn (by rw [← m 20 (by decide) (by decide)]; exact z.1)⟩)
    unfold RV at ev ⊢
    rw [m 17 (by decide) (by decide), m 18 (by decide) (by decide), m 19 (by decide) (by decide), m 20 (by decide) (by decide), m 21 (by decide) (by decide), m 22 (by decide) (by decide), m 23 (by decide) (by decide)]
    exact ⟨ev.1, ev.2.1, ev.2.2.1, ev.2.2.2.1, ev.2.2.2.2.1, ev.2.2.2.2.2.1, ev.2.2.2.2.2.2.1, Or.inl ⟨if_pos rfl, (congrFun (mset_k (by decide)) j).trans mset_s, mset_s⟩⟩
  · have k : ¬ M.1 24 j ≤ 0 := fun z => by
      rw [Int32.le_iff_toInt_le, show (0 : Int32).toInt = 0 by decide] at z
      omega
    obtain ⟨g0, hg0, eg⟩ := vp_in_of (hg k) (by decide)
    have hcn : S.2.2 j ≤ Z.N 2 := by
      have := h.2.1 j
      rw [h.1.2.2.1]
      exact this
    by_cases u : ub = 0
    · have w3 : ¬ S.1 2 j 3 = 3 := by rw [hw3]; exact fun z => (hub.mp z) u
      rw [X_unl_n d0 (d1.trans eg) hg0 w3, d2]
      rw [M_unl_n (by omega) k eg hg0 u] at hrg ⊢
      have m : ∀ k, k ≠ 24 → k ≠ 25 → k ≠ 26 → k ≠ 27 → (mset (mset (mset (mset M 27 g0 (M.1 27 g0 + 0)) 26 g0 (M.1 26 g0 - M.1 24 j)) 24 j 0) 25 j (-1)).1 k = M.1 k := fun k a b c d => (mset_k b).trans ((mset_k a).trans ((mset_k c).trans (mset_k d)))
      have m24 : (mset (mset (mset (mset M 27 g0 (M.1 27 g0 + 0)) 26 g0 (M.1 26 g0 - M.1 24 j)) 24 j 0) 25 j (-1)).1 24 j = 0 := (congrFun (mset_k (by decide)) j).trans mset_s
      have m25 : (mset (mset (mset (mset M 27 g0 (M.1 27 g0 + 0)) 26 g0 (M.1 26 g0 - M.1 24 j)) 24 j 0) 25 j (-1)).1 25 j = -1 := mset_s
      have m26 : ∀ g, (mset (mset (mset (mset M 27 g0 (M.1 27 g0 + 0)) 26 g0 (M.1 26 g0 - M.1 24 j)) 24 j 0) 25 j (-1)).1 26 g = if g = g0 then M.1 26 g0 - M.1 24 j else M.1 26 g := fun g => by
        rw [mset_k (by decide), mset_k (by decide)]
        by_cases q : g = g0
        · rw [if_pos q, q, mset_s]
        · rw [if_neg q, mset_j q, mset_k (by decide)]
      have m27 : ∀ g, (mset (mset (mset (mset M 27 g0 (M.1 27 g0 + 0)) 26 g0 (M.1 26 g0 - M.1 24 j)) 24 j 0) 25 j (-1)).1 27 g = M.1 27 g := fun g => by
        rw [mset_k (by decide), mset_k (by decide), mset_k (by decide)]
        by_cases q : g = g0
        · rw [q, mset_s, Int32.add_zero]
        · rw [mset_j q]
      refine RXN_go (p := 10) (j := j) h (Or.inr (Nat.le_refl _)) (Or.inl hj) ((xset_kk (by decide)).trans (xset_kk (by decide))) (fun q _ => (xset_k (by omega)).trans (xset_k (by omega))) (fun i hi => (xset_k (by omega)).trans (xset_k (by omega))) (fun c hc => (xset_k (by omega)).trans (xset_k (by omega))) (fun _ _ => rfl) (fun i hi => if_neg hi) (fun k i _ _ _ _ _ => (mset_n (by omega)).trans ((mset_n (by omega)).trans ((mset_n (by omega)).trans (mset_n (by omega))))) (fun _ _ => rfl) (fun hp => absurd hp n10) (fun _ => ?_) (fun g hgg => ?_) (Or.inl (if_pos rfl)) (fun _ q _ _ => ⟨fun z => hn z.1, fun z => hn (by rw [← m 20 (by decide) (by decide) (by decide) (by decide)]; exact z.1)⟩)
      · unfold RV at ev ⊢
        rw [m 17 (by decide) (by decide) (by decide) (by decide), m 18 (by decide) (by decide) (by decide) (by decide), m 19 (by decide) (by decide) (by decide) (by decide), m 20 (by decide) (by decide) (by decide) (by decide), m 21 (by decide) (by decide) (by decide) (by decide), m 22 (by decide) (by decide) (by decide) (by decide), m 23 (by decide) (by decide) (by decide) (by decide), xset_kk (by decide), xset_kk (by decide)]
        exact ⟨ev.1, ev.2.1, ev.2.2.1, ev.2.2.2.1, ev.2.2.2.2.1, ev.2.2.2.2.2.1, ev.2.2.2.2.2.2.1, Or.inl ⟨if_pos rfl, m24, m25⟩⟩
      · have e := h.g hgg
        have l : sumLd (xset (xset (xcset S j 0) 5 3 g0 (S.1 5 3 g0 - M.1 24 j)) 3 (S.2.2 j - 1) 2 1) (nI g) (Z.N 2) = if g = g0 then sumLd S (nI g) (Z.N 2) - M.1 24 j else sumLd S (nI g) (Z.N 2) := by
          rw [sumLd_one (S := S) (c := S.2.2 j - 1) (Z.N 2) (by omega) (fun i _ hi => by
            unfold lOn
            rw [xset_k (by omega), xset_kk (by decide)]
            rfl)]
          have l1 : lOn (xset (xset (xcset S j 0) 5 3 g0 (S.1 5 3 g0 - M.1 24 j)) 3 (S.2.2 j - 1) 2 1) (nI g) (S.2.2 j - 1) = 0 := by
            unfold lOn
            rw [xset_s, if_neg (fun z => absurd z.2 (by decide))]
          have l2 : lOn S (nI g) (S.2.2 j - 1) = if g = g0 then M.1 24 j else 0 := by
            unfold lOn
            rw [d1, eg, d2, d3]
            by_cases q : g = g0
            · rw [if_pos ⟨by rw [q], rfl⟩, if_pos q]
            · rw [if_neg (fun z => q ((nI_eq (by omega) (by omega)).mp z.1).symm), if_neg q]
          rw [l1, l2]
          by_cases q : g = g0
          · rw [if_pos q, if_pos q, Int32.add_zero]
          · rw [if_neg q, if_neg q, Int32.sub_zero, Int32.add_zero]
        refine ⟨?_, ?_, ?_, ?_, hrg g hgg, ?_⟩
        · rw [m26, xset_kk (by decide)]
          by_cases q : g = g0
          · rw [if_pos q, q, xset_s, (h.g hg0).1]
          · rw [if_neg q, xset_f q]
            exact e.1
        · rw [m27, xset_kk (by decide), xset_n (by omega)]
          exact e.2.1
        · rw [m 28 (by decide) (by decide) (by decide) (by decide), xset_kk (by decide), xset_n (by omega)]
          exact e.2.2.1
        · rw [l, m26]
          by_cases q : g = g0
          · rw [if_pos q, if_pos q, e.2.2.2.1, q]
          · rw [if_neg q, if_neg q]
            exact e.2.2.2.1
        · rw [m 28 (by decide) (by decide) (by decide) (by decide)]
          exact e.2.2.2.2.2
    · have w3 : S.1 2 j 3 = 3 := by rw [hw3]; exact hub.mpr u
      rw [X_unl_y d0 (d1.trans eg) hg0 w3, d2]
      rw [M_unl_y (by omega) k eg hg0 u] at hrg ⊢
      have m : ∀ k, k ≠ 24 → k ≠ 25 → k ≠ 26 → k ≠ 27 → (mset (mset (mset (mset M 27 g0 (M.1 27 g0 + M.1 24 j)) 26 g0 (M.1 26 g0 - 0)) 24 j 0) 25 j (-1)).1 k = M.1 k := fun k a b c d => (mset_k b).trans ((mset_k a).trans ((mset_k c).trans (mset_k d)))
      have m24 : (mset (mset (mset (mset M 27 g0 (M.1 27 g0 + M.1 24 j)) 26 g0 (M.1 26 g0 - 0)) 24 j 0) 25 j (-1)).1 24 j = 0 := (congrFun (mset_k (by decide)) j).trans mset_s
      have m25 : (mset (mset (mset (mset M 27 g0 (M.1 27 g0 + M.1 24 j)) 26 g0 (M.1 26 g0 - 0)) 24 j 0) 25 j (-1)).1 25 j = -1 := mset_s
      have m26 : ∀ g, (mset (mset (mset (mset M 27 g0 (M.1 27 g0 + M.1 24 j)) 26 g0 (M.1 26 g0 - 0)) 24 j 0) 25 j (-1)).1 26 g = M.1 26 g := fun g => by
        rw [mset_k (by decide), mset_k (by decide)]
        by_cases q : g = g0
        · rw [q, mset_s, Int32.sub_zero]
        · rw [mset_j q, mset_k (by decide)]
      have m27 : ∀ g, (mset (mset (mset (mset M 27 g0 (M.1 27 g0 + M.1 24 j)) 26 g0 (M.1 26 g0 - 0)) 24 j 0) 25 j (-1)).1 27 g = if g = g0 then M.1 27 g0 + M.1 24 j else M.1 27 g := fun g => by
        rw [mset_k (by decide), mset_k (by decide), mset_k (by decide)]
        by_cases q : g = g0
        · rw [if_pos q, q, mset_s]
        · rw [if_neg q, mset_j q]
      refine RXN_go (p := 10) (j := j) h (Or.inr (Nat.le_refl _)) (Or.inl hj) (xset_kk (by decide)) (fun q _ => xset_k (by omega)) (fun i hi => xset_k (by omega)) (fun c hc => xset_k (by omega)) (fun _ _ => rfl) (fun i hi => if_neg hi) (fun k i _ _ _ _ _ => (mset_n (by omega)).trans ((mset_n (by omega)).trans ((mset_n (by omega)).trans (mset_n (by omega))))) (fun _ _ => rfl) (fun hp => absurd hp n10) (fun _ => ?_) (fun g hgg => ?_) (Or.inl (if_pos rfl)) (fun _ q _ _ => ⟨fun z => hn z.1, fun z => hn (by rw [← m 20 (by decide) (by decide) (by decide) (by decide)]; exact z.1)⟩)
      · unfold RV at ev ⊢
        rw [m 17 (by decide) (by decide) (by decide) (by decide), m 18 (by decide) (by decide) (by decide) (by decide), m 19 (by decide) (by decide) (by decide) (by decide), m 20 (by decide) (by decide) (by decide) (by decide), m 21 (by decide) (by decide) (by decide) (by decide), m 22 (by decide) (by decide) (by decide) (by decide), m 23 (by decide) (by decide) (by decide) (by decide), xset_kk (by decide)]
        exact ⟨ev.1, ev.2.1, ev.2.2.1, ev.2.2.2.1, ev.2.2.2.2.1, ev.2.2.2.2.2.1, ev.2.2.2.2.2.2.1, Or.inl ⟨if_pos rfl, m24, m25⟩⟩
      · have e := h.g hgg
        refine ⟨?_, ?_, ?_, ?_, hrg g hgg, ?_⟩
        · rw [m26, xset_n (by omega)]
          exact e.1
        · rw [m27]
          by_cases q : g = g0
          · rw [if_pos q, q, xset_s, (h.g hg0).2.1]
          · rw [if_neg q, xset_f q]
            exact e.2.1
        · rw [m 28 (by decide) (by decide) (by decide) (by decide), xset_n (by omega)]
          exact e.2.2.1
        · rw [m26, sumLd_eq (S := S) (S' := xset (xcset S j 0) 5 4 g0 (S.1 5 4 g0 + M.1 24 j)) (xset_kk (by decide))]
          exact e.2.2.2.1
        · rw [m 28 (by decide) (by decide) (by decide) (by decide)]
          exact e.2.2.2.2.2
