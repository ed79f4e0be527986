/-! ===== steps of both sides that keep what is alike ===== -/
theorem RP.f {S : XS} {M : MS} {nv p : Nat} (h : RP S M nv p) : ∀ f, 3 ≤ f → f ≤ 9 → S.1 1 p f = M.1 (f + 4) p := by
  obtain ⟨-, -, -, a3, a4, a5, a6, a7, a8, a9, -⟩ := h
  intro f h3 h9
  rcases (show f = 3 ∨ f = 4 ∨ f = 5 ∨ f = 6 ∨ f = 7 ∨ f = 8 ∨ f = 9 by omega) with rfl | rfl | rfl | rfl | rfl | rfl | rfl
  · exact a3
  · exact a4
  · exact a5
  · exact a6
  · exact a7
  · exact a8
  · exact a9
theorem RP.mk {S : XS} {M : MS} {nv p : Nat} (e0 : S.1 1 p 0 = M.1 4 p) (e1 : S.1 1 p 1 = M.1 5 p) (e2 : S.1 1 p 2 = M.1 6 p) (g : ∀ f, 3 ≤ f → f ≤ 9 → S.1 1 p f = M.1 (f + 4) p) (ek : S.2.1 p = M.2 p) (c1 : S.1 1 p 11 = nI (cntOn M p 1 nv)) (c0 : S.1 1 p 12 = nI (cntOn M p 0 nv)) (w : S.1 1 p 13 = M_weights_f M (nI p) nv) (t1 : cameR (S.1 1 p 14) (M.1 15 (2 * p + 1))) (t0 : cameR (S.1 1 p 15) (M.1 15 (2 * p))) : RP S M nv p :=
  ⟨e0, e1, e2, g 3 (by omega) (by omega), g 4 (by omega) (by omega), g 5 (by omega) (by omega), g 6 (by omega) (by omega), g 7 (by omega) (by omega), g 8 (by omega) (by omega), g 9 (by omega) (by omega), ek, c1, c0, w, t1, t0⟩
theorem RP.w {S : XS} {M : MS} {nv p : Nat} (h : RP S M nv p) : S.1 1 p 13 = M_weights_f M (nI p) nv := h.2.2.2.2.2.2.2.2.2.2.2.2.2.1
theorem RP.c1 {S : XS} {M : MS} {nv p : Nat} (h : RP S M nv p) : S.1 1 p 11 = nI (cntOn M p 1 nv) := h.2.2.2.2.2.2.2.2.2.2.2.1
theorem RP.c0 {S : XS} {M : MS} {nv p : Nat} (h : RP S M nv p) : S.1 1 p 12 = nI (cntOn M p 0 nv) := h.2.2.2.2.2.2.2.2.2.2.2.2.1
theorem RP.k {S : XS} {M : MS} {nv p : Nat} (h : RP S M nv p) : S.2.1 p = M.2 p := h.2.2.2.2.2.2.2.2.2.2.1
theorem RP.t1 {S : XS} {M : MS} {nv p : Nat} (h : RP S M nv p) : cameR (S.1 1 p 14) (M.1 15 (2 * p + 1)) := h.2.2.2.2.2.2.2.2.2.2.2.2.2.2.1
theorem RP.t0 {S : XS} {M : MS} {nv p : Nat} (h : RP S M nv p) : cameR (S.1 1 p 15) (M.1 15 (2 * p)) := h.2.2.2.2.2.2.2.2.2.2.2.2.2.2.2
theorem sumLd_eq {S S' : XS} {g : Int32} (e : S'.1 3 = S.1 3) : ∀ n, sumLd S' g n = sumLd S g n
  | 0 => rfl
  | n + 1 => by
    show sumLd S' g n + _ = sumLd S g n + _
    rw [sumLd_eq e n, e]
theorem RG_eq {Z : XZ} {S S' : XS} {M M' : MS} {t g : Nat} (h : RG Z S M t g) (e5 : S'.1 5 = S.1 5) (e3 : S'.1 3 = S.1 3) (m6 : M'.1 26 = M.1 26) (m7 : M'.1 27 = M.1 27) (m8 : M'.1 28 = M.1 28) : RG Z S' M' t g := by
  unfold RG at h ⊢
  rw [e5, m6, m7, m8, sumLd_eq e3]
  exact h
theorem cnt_k {M M' : MS} {p : Nat} {b : Int32} {n : Nat} (a : M'.1 20 = M.1 20) (c : M'.1 21 = M.1 21) (d : M'.1 22 = M.1 22) : cntOn M' p b n = cntOn M p b n := cntOn_eq n (fun i _ => by unfold iOn; rw [a, c, d])
theorem wts_k {M M' : MS} {p n : Nat} (hn : n ≤ 16) (a : M'.1 20 = M.1 20) (c : M'.1 21 = M.1 21) (d : M'.1 17 = M.1 17) (e : M'.1 24 = M.1 24) : M_weights_f M' (nI p) n = M_weights_f M (nI p) n := wts_eq n hn (fun i _ => by unfold wOn; rw [a, c, d, e])
theorem RXN.nv {Z : XZ} {S : XS} {M : MS} {t : Nat} (h : RXN Z S M t) : Z.N 1 ≤ 16 := h.1.2.2.2.2.1
theorem RXN.np {Z : XZ} {S : XS} {M : MS} {t : Nat} (h : RXN Z S M t) : Z.N 0 ≤ 10 := h.1.2.2.2.1
/-- a number of a piece that both sides keep -/
theorem RXN_f {Z : XZ} {S : XS} {M : MS} {t p f : Nat} {v : Int32} (h : RXN Z S M t) (hp : p < Z.N 0) (h3 : 3 ≤ f) (h9 : f ≤ 9) : RXN Z (xset S 1 p f v) (mset M (f + 4) p v) t := by
  have n16 : ¬ (16 : Nat) < Z.N 1 := by have := h.nv; omega
  refine RXN_go (p := p) (j := 16) h (Or.inl hp) (Or.inr (Nat.le_refl _)) (xset_kk (by decide)) (fun q hq => xset_k (fun z => hq z.2)) (fun i _ => xset_k (by omega)) (fun c _ => xset_k (by omega)) (fun _ _ => rfl) (fun _ _ => rfl) (fun k i _ _ _ _ _ => mset_n (by omega)) (fun _ _ => rfl) (fun _ => ?_) (fun hj => absurd hj n16) (fun g hg => RG_eq (h.g hg) (xset_kk (by decide)) (xset_kk (by decide)) (mset_k (by omega)) (mset_k (by omega)) (mset_k (by omega))) (Or.inr rfl) (fun hj => absurd hj n16)
  have e := h.p hp
  have s : ∀ f', f' ≠ f → (xset S 1 p f v).1 1 p f' = S.1 1 p f' := fun f' hf => xset_f hf
  have m : ∀ k, k ≠ f + 4 → (mset M (f + 4) p v).1 k = M.1 k := fun k hk => mset_k hk
  refine RP.mk ?_ ?_ ?_ (fun f' a3 a9 => ?_) e.k ?_ ?_ ?_ ?_ ?_
  · rw [s 0 (by omega), m 4 (by omega)]; exact e.1
  · rw [s 1 (by omega), m 5 (by omega)]; exact e.2.1
  · rw [s 2 (by omega), m 6 (by omega)]; exact e.2.2.1
  · by_cases c : f' = f
    · subst c
      rw [xset_s, mset_s]
    · rw [s f' c, m (f' + 4) (by omega)]
      exact e.f f' a3 a9
  · rw [s 11 (by omega), cnt_k (m 20 (by omega)) (m 21 (by omega)) (m 22 (by omega))]; exact e.c1
  · rw [s 12 (by omega), cnt_k (m 20 (by omega)) (m 21 (by omega)) (m 22 (by omega))]; exact e.c0
  · rw [s 13 (by omega), wts_k h.nv (m 20 (by omega)) (m 21 (by omega)) (m 17 (by omega)) (m 24 (by omega))]; exact e.w
  · rw [s 14 (by omega), m 15 (by omega)]; exact e.t1
  · rw [s 15 (by omega), m 15 (by omega)]; exact e.t0
/-- what is known of a piece -/
theorem RXN_k {Z : XZ} {S : XS} {M : MS} {t p : Nat} {v : NN} (h : RXN Z S M t) (hp : p < Z.N 0) : RXN Z (xkset S p v) (mkset M p v) t := by
  have n16 : ¬ (16 : Nat) < Z.N 1 := by have := h.nv; omega
  refine RXN_go (p := p) (j := 16) h (Or.inl hp) (Or.inr (Nat.le_refl _)) rfl (fun _ _ => rfl) (fun _ _ => rfl) (fun _ _ => rfl) (fun q hq => if_neg hq) (fun _ _ => rfl) (fun _ _ _ _ _ _ _ => rfl) (fun q hq => if_neg hq) (fun _ => ?_) (fun hj => absurd hj n16) (fun g hg => RG_eq (h.g hg) rfl rfl rfl rfl rfl) (Or.inr rfl) (fun hj => absurd hj n16)
  have e := h.p hp
  refine RP.mk e.1 e.2.1 e.2.2.1 e.f ?_ ?_ ?_ ?_ e.t1 e.t0
  · show (if p = p then v else S.2.1 p) = (if p = p then v else M.2 p)
    rw [if_pos rfl, if_pos rfl]
  · rw [cnt_k (M := M) (M' := mkset M p v) rfl rfl rfl]; exact e.c1
  · rw [cnt_k (M := M) (M' := mkset M p v) rfl rfl rfl]; exact e.c0
  · rw [wts_k (M := M) (M' := mkset M p v) h.nv rfl rfl rfl rfl]; exact e.w
theorem RXN_29 {Z : XZ} {S : XS} {M : MS} {t j : Nat} {v : Int32} (h : RXN Z S M t) : RXN Z S (mset M 29 j v) t := by
  have n16 : ¬ (16 : Nat) < Z.N 1 := by have := h.nv; omega
  have m : ∀ k, k ≠ 29 → (mset M 29 j v).1 k = M.1 k := fun k hk => mset_k hk
  refine RXN_go (p := 10) (j := 16) h (Or.inr (Nat.le_refl _)) (Or.inr (Nat.le_refl _)) rfl (fun _ _ => rfl) (fun _ _ => rfl) (fun _ _ => rfl) (fun q hq => rfl) (fun _ _ => rfl) (fun k i hk _ _ _ _ => by rw [m k hk]) (fun q hq => rfl) (fun hp => ?_) (fun hj => absurd hj n16) (fun g hg => RG_eq (h.g hg) rfl rfl (m 26 (by omega)) (m 27 (by omega)) (m 28 (by omega))) (Or.inr rfl) (fun hj => absurd hj n16)
  have := h.np
  omega
/-- the last coming, to the mine -/
theorem RXN_came1 {Z : XZ} {S : XS} {M : MS} {t p : Nat} {x : Int32} (h : RXN Z S M t) (hp : p < Z.N 0) (hx : 0 ≤ x.toInt) : RXN Z (xset S 1 p 14 x) (mset M 15 (2 * p + 1) x) t := by
  have n16 : ¬ (16 : Nat) < Z.N 1 := by have := h.nv; omega
  refine RXN_go (p := p) (j := 16) h (Or.inl hp) (Or.inr (Nat.le_refl _)) (xset_kk (by decide)) (fun q hq => xset_k (fun z => hq z.2)) (fun i _ => xset_k (by omega)) (fun c _ => xset_k (by omega)) (fun _ _ => rfl) (fun _ _ => rfl) (fun k i _ _ _ _ _ => mset_n (by omega)) (fun _ _ => rfl) (fun _ => ?_) (fun hj => absurd hj n16) (fun g hg => RG_eq (h.g hg) (xset_kk (by decide)) (xset_kk (by decide)) (mset_k (by omega)) (mset_k (by omega)) (mset_k (by omega))) (Or.inr rfl) (fun hj => absurd hj n16)
  have e := h.p hp
  have s : ∀ f', f' ≠ 14 → (xset S 1 p 14 x).1 1 p f' = S.1 1 p f' := fun f' hf => xset_f hf
  have m : ∀ k, k ≠ 15 → (mset M 15 (2 * p + 1) x).1 k = M.1 k := fun k hk => mset_k hk
  refine RP.mk ?_ ?_ ?_ (fun f' a3 a9 => ?_) e.k ?_ ?_ ?_ ?_ ?_
  · rw [s 0 (by omega), m 4 (by omega)]; exact e.1
  · rw [s 1 (by omega), m 5 (by omega)]; exact e.2.1
  · rw [s 2 (by omega), m 6 (by omega)]; exact e.2.2.1
  · rw [s f' (by omega), m (f' + 4) (by omega)]
    exact e.f f' a3 a9
  · rw [s 11 (by omega), cnt_k (m 20 (by omega)) (m 21 (by omega)) (m 22 (by omega))]; exact e.c1
  · rw [s 12 (by omega), cnt_k (m 20 (by omega)) (m 21 (by omega)) (m 22 (by omega))]; exact e.c0
  · rw [s 13 (by omega), wts_k h.nv (m 20 (by omega)) (m 21 (by omega)) (m 17 (by omega)) (m 24 (by omega))]; exact e.w
  · rw [xset_s, mset_s]; exact Or.inr ⟨rfl, hx⟩
  · rw [s 15 (by omega), mset_n (by omega)]; exact e.t0
/-- the last coming, to the base -/
theorem RXN_came0 {Z : XZ} {S : XS} {M : MS} {t p : Nat} {x : Int32} (h : RXN Z S M t) (hp : p < Z.N 0) (hx : 0 ≤ x.toInt) : RXN Z (xset S 1 p 15 x) (mset M 15 (2 * p) x) t := by
  have n16 : ¬ (16 : Nat) < Z.N 1 := by have := h.nv; omega
  refine RXN_go (p := p) (j := 16) h (Or.inl hp) (Or.inr (Nat.le_refl _)) (xset_kk (by decide)) (fun q hq => xset_k (fun z => hq z.2)) (fun i _ => xset_k (by omega)) (fun c _ => xset_k (by omega)) (fun _ _ => rfl) (fun _ _ => rfl) (fun k i _ _ _ _ _ => mset_n (by omega)) (fun _ _ => rfl) (fun _ => ?_) (fun hj => absurd hj n16) (fun g hg => RG_eq (h.g hg) (xset_kk (by decide)) (xset_kk (by decide)) (mset_k (by omega)) (mset_k (by omega)) (mset_k (by omega))) (Or.inr rfl) (fun hj => absurd hj n16)
  have e := h.p hp
  have s : ∀ f', f' ≠ 15 → (xset S 1 p 15 x).1 1 p f' = S.1 1 p f' := fun f' hf => xset_f hf
  have m : ∀ k, k ≠ 15 → (mset M 15 (2 * p) x).1 k = M.1 k := fun k hk => mset_k hk
  refine RP.mk ?_ ?_ ?_ (fun f' a3 a9 => ?_) e.k ?_ ?_ ?_ ?_ ?_
  · rw [s 0 (by omega), m 4 (by omega)]; exact e.1
  · rw [s 1 (by omega), m 5 (by omega)]; exact e.2.1
  · rw [s 2 (by omega), m 6 (by omega)]; exact e.2.2.1
  · rw [s f' (by omega), m (f' + 4) (by omega)]
    exact e.f f' a3 a9
  · rw [s 11 (by omega), cnt_k (m 20 (by omega)) (m 21 (by omega)) (m 22 (by omega))]; exact e.c1
  · rw [s 12 (by omega), cnt_k (m 20 (by omega)) (m 21 (by omega)) (m 22 (by omega))]; exact e.c0
  · rw [s 13 (by omega), wts_k h.nv (m 20 (by omega)) (m 21 (by omega)) (m 17 (by omega)) (m 24 (by omega))]; exact e.w
  · rw [s 14 (by omega), mset_n (by omega)]; exact e.t1
  · rw [xset_s, mset_s]; exact Or.inr ⟨rfl, hx⟩
/-- a vehicle that is on no piece, before and behind -/
theorem RXN_v {Z : XZ} {S : XS} {M : MS} {t j f : Nat} {v : Int32} (h : RXN Z S M t) (hj : j < Z.N 1) (h3 : 3 ≤ f) (h5 : f ≤ 5) (hn : ¬ M.1 20 j = 1) (hv : f = 3 → ¬ v = 1) : RXN Z (xset S 2 j f v) (mset M (f + 17) j v) t := by
  have hn' : ¬ (mset M (f + 17) j v).1 20 j = 1 := by
    by_cases c : f = 3
    · subst c
      rw [mset_s]; exact hv rfl
    · rw [mset_k (by omega)]; exact hn
  have n10 : ¬ (10 : Nat) < Z.N 0 := by have := h.np; omega
  refine RXN_go (p := 10) (j := j) h (Or.inr (Nat.le_refl _)) (Or.inl hj) (xset_kk (by decide)) (fun q _ => xset_k (by omega)) (fun i hi => xset_k (fun z => hi z.2)) (fun c _ => xset_k (by omega)) (fun _ _ => rfl) (fun _ _ => rfl) (fun k i _ _ _ _ _ => mset_n (by omega)) (fun _ _ => rfl) (fun hp => absurd hp n10) (fun _ => ?_) (fun g hg => RG_eq (h.g hg) (xset_kk (by decide)) (xset_kk (by decide)) (mset_k (by omega)) (mset_k (by omega)) (mset_k (by omega))) (Or.inr rfl) (fun _ q _ _ => ⟨fun z => hn z.1, fun z => hn' z.1⟩)
  have e := h.v hj
  have s : ∀ f', f' ≠ f → (xset S 2 j f v).1 2 j f' = S.1 2 j f' := fun f' hf => xset_f hf
  have s3 : (xset S 2 j f v).1 3 = S.1 3 := xset_kk (by decide)
  have m : ∀ k, k ≠ f + 17 → (mset M (f + 17) j v).1 k = M.1 k := fun k hk => mset_k hk
  have g : ∀ f', 3 ≤ f' → f' ≤ 5 → (xset S 2 j f v).1 2 j f' = (mset M (f + 17) j v).1 (f' + 17) j := fun f' a3 a5 => by
    by_cases c : f' = f
    · subst c
      rw [xset_s, mset_s]
    · rw [s f' c, m (f' + 17) (by omega)]
      rcases (show f' = 3 ∨ f' = 4 ∨ f' = 5 by omega) with rfl | rfl | rfl
      · exact e.2.2.2.1
      · exact e.2.2.2.2.1
      · exact e.2.2.2.2.2.1
  refine ⟨?_, ?_, ?_, g 3 (by omega) (by omega), g 4 (by omega) (by omega), g 5 (by omega) (by omega), fun z => absurd z hn', ?_⟩
  · rw [s 0 (by omega), m 17 (by omega)]; exact e.1
  · rw [s 1 (by omega), m 18 (by omega)]; exact e.2.1
  · rw [s 2 (by omega), m 19 (by omega)]; exact e.2.2.1
  · rw [s3, m 24 (by omega), m 25 (by omega)]; exact e.2.2.2.2.2.2.2
/-- when its time is over, of a vehicle that is on no piece -/
theorem RXN_over {Z : XZ} {S : XS} {M : MS} {t j : Nat} {v : Int32} (h : RXN Z S M t) (hj : j < Z.N 1) (hn : ¬ M.1 20 j = 1) : RXN Z S (mset M 23 j v) t := by
  have hn' : ¬ (mset M 23 j v).1 20 j = 1 := by rw [mset_k (by decide)]; exact hn
  have n10 : ¬ (10 : Nat) < Z.N 0 := by have := h.np; omega
  refine RXN_go (p := 10) (j := j) h (Or.inr (Nat.le_refl _)) (Or.inl hj) rfl (fun q _ => rfl) (fun i hi => rfl) (fun c _ => rfl) (fun _ _ => rfl) (fun _ _ => rfl) (fun k i _ _ _ _ _ => mset_n (by omega)) (fun _ _ => rfl) (fun hp => absurd hp n10) (fun _ => ?_) (fun g hg => RG_eq (h.g hg) rfl rfl (mset_k (by omega)) (mset_k (by omega)) (mset_k (by omega))) (Or.inr rfl) (fun _ q _ _ => ⟨fun z => hn z.1, fun z => hn' z.1⟩)
  have e := h.v hj
  have m : ∀ k, k ≠ 23 → (mset M 23 j v).1 k = M.1 k := fun k hk => mset_k hk
  unfold RV at e ⊢
  rw [m 17 (by omega), m 18 (by omega), m 19 (by omega), m 20 (by omega), m 21 (by omega), m 22 (by omega), m 24 (by omega), m 25 (by omega)]
  exact ⟨e.1, e.2.1, e.2.2.1, e.2.2.2.1, e.2.2.2.2.1, e.2.2.2.2.2.1, fun z => absurd z hn, e.2.2.2.2.2.2.2⟩
/-- the weight of a vehicle -/
theorem RV.wt {Z : XZ} {S : XS} {M : MS} {j : Nat} (h : RV S M j) : X_weight Z S j = M.1 17 j + M.1 24 j := by
  unfold X_weight
  rcases h.2.2.2.2.2.2.2 with ⟨a, b, -⟩ | ⟨a, b, c, -⟩
  · rw [if_pos a, b, h.1]
    exact (Int32.add_zero _).symm
  · rw [if_neg a, c, h.1]
theorem M_weight_j {M : MS} {j : Nat} (hj : j < 2 ^ 31) : M_weight M (nI j) = M.1 17 j + M.1 24 j := by
  unfold M_weight
  rw [nI_clamp hj]
