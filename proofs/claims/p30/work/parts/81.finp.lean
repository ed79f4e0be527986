/-! ===== what a call of does comes to: pieces ===== -/
theorem iI_1_100 {M : MS} {x : Int32} : M_isIn M x 1 100 ↔ (1 ≤ x.toInt ∧ x.toInt ≤ 100) := by rw [isIn_iff, show (1 : Int32).toInt = 1 by decide, show (100 : Int32).toInt = 100 by decide]
theorem iI_1_300 {M : MS} {x : Int32} : M_isIn M x 1 300 ↔ (1 ≤ x.toInt ∧ x.toInt ≤ 300) := by rw [isIn_iff, show (1 : Int32).toInt = 1 by decide, show (300 : Int32).toInt = 300 by decide]
theorem iI_1_500 {M : MS} {x : Int32} : M_isIn M x 1 500 ↔ (1 ≤ x.toInt ∧ x.toInt ≤ 500) := by rw [isIn_iff, show (1 : Int32).toInt = 1 by decide, show (500 : Int32).toInt = 500 by decide]
theorem iI_1_1000000 {M : MS} {x : Int32} : M_isIn M x 1 1000000 ↔ (1 ≤ x.toInt ∧ x.toInt ≤ 1000000) := by rw [isIn_iff, show (1 : Int32).toInt = 1 by decide, show (1000000 : Int32).toInt = 1000000 by decide]
theorem iI_0_120 {M : MS} {x : Int32} : M_isIn M x 0 120 ↔ (0 ≤ x.toInt ∧ x.toInt ≤ 120) := by rw [isIn_iff, show (0 : Int32).toInt = 0 by decide, show (120 : Int32).toInt = 120 by decide]
theorem iI_1_3000 {M : MS} {x : Int32} : M_isIn M x 1 3000 ↔ (1 ≤ x.toInt ∧ x.toInt ≤ 3000) := by rw [isIn_iff, show (1 : Int32).toInt = 1 by decide, show (3000 : Int32).toInt = 3000 by decide]
theorem iI_0_2 {M : MS} {x : Int32} : M_isIn M x 0 2 ↔ (0 ≤ x.toInt ∧ x.toInt ≤ 2) := by rw [isIn_iff, show (0 : Int32).toInt = 0 by decide, show (2 : Int32).toInt = 2 by decide]
theorem iI_1_20000 {M : MS} {x : Int32} : M_isIn M x 1 20000 ↔ (1 ≤ x.toInt ∧ x.toInt ≤ 20000) := by rw [isIn_iff, show (1 : Int32).toInt = 1 by decide, show (20000 : Int32).toInt = 20000 by decide]
theorem iI_1_999 {M : MS} {x : Int32} : M_isIn M x 1 999 ↔ (1 ≤ x.toInt ∧ x.toInt ≤ 999) := by rw [isIn_iff, show (1 : Int32).toInt = 1 by decide, show (999 : Int32).toInt = 999 by decide]
theorem iI_500_40000 {M : MS} {x : Int32} : M_isIn M x 500 40000 ↔ (500 ≤ x.toInt ∧ x.toInt ≤ 40000) := by rw [isIn_iff, show (500 : Int32).toInt = 500 by decide, show (40000 : Int32).toInt = 40000 by decide]
theorem iI_0_60000 {M : MS} {x : Int32} : M_isIn M x 0 60000 ↔ (0 ≤ x.toInt ∧ x.toInt ≤ 60000) := by rw [isIn_iff, show (0 : Int32).toInt = 0 by decide, show (60000 : Int32).toInt = 60000 by decide]
theorem iI_m20_60 {M : MS} {x : Int32} : M_isIn M x (-20) 60 ↔ (-20 ≤ x.toInt ∧ x.toInt ≤ 60) := by rw [isIn_iff, show (-20 : Int32).toInt = -20 by decide, show (60 : Int32).toInt = 60 by decide]
section
variable {T : Nat → ClassId} {z : Nat} {Z : XZ} {S : XS} {M : MS} {L : LwS} {t : Nat} {v : Option Value} {w1 : WD}
theorem RR.np {Z : XZ} {S : XS} {M : MS} {L : LwS} {t : Nat} (h : RR Z S M L t) : Z.N 0 ≤ 8 := h.2.1.1
theorem RR.nv {Z : XZ} {S : XS} {M : MS} {L : LwS} {t : Nat} (h : RR Z S M L t) : Z.N 1 ≤ 8 := h.2.1.2.1
theorem RR.n {Z : XZ} {S : XS} {M : MS} {L : LwS} {t : Nat} (h : RR Z S M L t) : MNn M (Z.N 0) (Z.N 1) := h.1.2.1.1
theorem RR.i {Z : XZ} {S : XS} {M : MS} {L : LwS} {t : Nat} (h : RR Z S M L t) : MI M (Z.N 0) (Z.N 1) t := h.1.2.1
theorem RR.l {Z : XZ} {S : XS} {M : MS} {L : LwS} {t : Nat} (h : RR Z S M L t) : LRR M L (Z.N 0) (Z.N 1) := h.2.1
theorem fi2a {p : Nat} (hR : RR Z S M L t) (ht : t < 512) (hp : p < Z.N 0) (h : poE cvi (pvx (X_plough Z S (nI p)).1 (.int (X_plough Z S (nI p)).2.1) (xW T z Z (X_plough Z S (nI p)).2.2)) (px (X_plough Z S (nI p)).1 (xW T z Z S)) v w1) : FIN T z Z t (lset L 0 (24 + p) 0) (L 0 (24 + p)) v w1 := by
  have hn := hR.np
  have ep : (nI p).toNatClampNeg = p := nI_clamp (by omega)
  have h1 := do_i (st_plough hR.1 ht (nI p)) h
  unfold M_plough at h1
  rw [if_pos (isP_ok hR.n hp)] at h1
  dsimp only at h1
  rw [ep] at h1
  rw [mset_k (show (10 : Nat) ≠ 29 by decide), ← (hR.l.q hp).2.2.2.2.2.1] at h1
  exact fin_0 h1 (by rw [mset_k (by decide), mset_s]) (LRR_f (LRR_29 hR.l) hp (Or.inr (Or.inr (Or.inr ⟨rfl, rfl⟩)))) (OB_t hR.2.2 (by rw [mset_k (by decide), mset_k (by decide)]) (by rw [mset_k (by decide), mset_k (by decide)]) (fun z => KI_t z (fun k a b => (by rw [mset_k (by omega), mset_k (by omega)]))))
theorem fi2b {x : Int32} (hR : RR Z S M L t) (ht : t < 512) (h : poE cvi (pvx (X_plough Z S (nI (Z.N 0))).1 (.int (X_plough Z S (nI (Z.N 0))).2.1) (xW T z Z (X_plough Z S (nI (Z.N 0))).2.2)) (px (X_plough Z S (nI (Z.N 0))).1 (xW T z Z S)) v w1) : FIN T z Z t (lset L 0 56 x) (-30000000) v w1 := by
  have h1 := do_i (st_plough hR.1 ht (nI (Z.N 0))) h
  unfold M_plough at h1
  rw [if_neg (isP_no hR.n)] at h1
  exact fin_1 h1 mset_s (LRR_gb (LRR_29 hR.l) (Or.inl ⟨rfl, rfl⟩)) (OB_29 hR.2.2)
theorem fi3a {mm : Int32} (hR : RR Z S M L t) (ht : t < 512) (h : poE cvi (pvx (X_flood Z S (nI (Z.N 0)) mm).1 (.int (X_flood Z S (nI (Z.N 0)) mm).2.1) (xW T z Z (X_flood Z S (nI (Z.N 0)) mm).2.2)) (px (X_flood Z S (nI (Z.N 0)) mm).1 (xW T z Z S)) v w1) : FIN T z Z t L (-30000000) v w1 := by
  have h1 := do_i (st_flood hR.1 ht (nI (Z.N 0)) mm) h
  unfold M_flood at h1
  rw [if_neg (isP_no hR.n)] at h1
  exact fin_1 h1 mset_s (LRR_29 hR.l) (OB_29 hR.2.2)
theorem fi3b {p : Nat} {mm : Int32} (hR : RR Z S M L t) (ht : t < 512) (hp : p < Z.N 0) (hm : ¬ (1 ≤ mm.toInt ∧ mm.toInt ≤ 100)) (h : poE cvi (pvx (X_flood Z S (nI p) mm).1 (.int (X_flood Z S (nI p) mm).2.1) (xW T z Z (X_flood Z S (nI p) mm).2.2)) (px (X_flood Z S (nI p) mm).1 (xW T z Z S)) v w1) : FIN T z Z t L (-20000000) v w1 := by
  have h1 := do_i (st_flood hR.1 ht (nI p) mm) h
  unfold M_flood at h1
  rw [if_pos (isP_ok hR.n hp), if_neg (fun z => hm (iI_1_100.mp z))] at h1
  exact fin_2 h1 mset_s (LRR_29 hR.l) (OB_29 hR.2.2)
theorem fl_iff {p : Nat} {mm : Int32} (hR : RR Z S M L t) (hp : p < Z.N 0) (hm : 1 ≤ mm.toInt ∧ mm.toInt ≤ 100) : (M_isPiece M (nI p) ∧ (M_isIn M mm 1 100 ∧ (M_isWater M (nI p) ∧ (¬ (M.1 7 (nI p).toNatClampNeg + M.1 8 (nI p).toNatClampNeg ≤ 0) ∧ ¬ (500 < M.1 9 (nI p).toNatClampNeg + mm))))) ↔ (¬ 2 ≤ L 1 p - L 1 p / 4 * 4) ∧ (¬ L 0 p + L 0 (8 + p) ≤ 0) ∧ ¬ (501 ≤ L 0 (16 + p) + mm) := by
  have hn := hR.np
  have ep : (nI p).toNatClampNeg = p := nI_clamp (by omega)
  have hP := hR.l.p hp
  have hq := hR.l.q hp
  rw [hP.kind, hq.2.2.1, hq.2.2.2.1, hq.2.2.2.2.1, ep]
  unfold M_isWater
  rw [ep]
  have l5 : 501 ≤ M.1 9 p + mm ↔ 500 < M.1 9 p + mm := by
    rw [Int32.le_iff_toInt_le, Int32.lt_iff_toInt_lt, show (501 : Int32).toInt = 501 by decide, show (500 : Int32).toInt = 500 by decide]
    omega
  rw [l5]
  constructor
  · rintro ⟨-, -, a, b, c⟩
    exact ⟨fun z => a ((kind_2 hP).1.mp z), b, c⟩
  · rintro ⟨a, b, c⟩
    exact ⟨isP_ok hR.n hp, iI_1_100.mpr hm, fun z => a ((kind_2 hP).1.mpr z), b, c⟩
theorem fi3c {p : Nat} {mm : Int32} (hR : RR Z S M L t) (ht : t < 512) (hp : p < Z.N 0) (hm : 1 ≤ mm.toInt ∧ mm.toInt ≤ 100) (hc : (¬ 2 ≤ L 1 p - L 1 p / 4 * 4) ∧ (¬ L 0 p + L 0 (8 + p) ≤ 0) ∧ ¬ (501 ≤ L 0 (16 + p) + mm)) (h : poE cvi (pvx (X_flood Z S (nI p) mm).1 (.int (X_flood Z S (nI p) mm).2.1) (xW T z Z (X_flood Z S (nI p) mm).2.2)) (px (X_flood Z S (nI p) mm).1 (xW T z Z S)) v w1) : FIN T z Z t (lset (lset L 0 (24 + p) 0) 0 (16 + p) ((lset L 0 (24 + p) 0) 0 (16 + p) + mm)) ((lset (lset L 0 (24 + p) 0) 0 (16 + p) ((lset L 0 (24 + p) 0) 0 (16 + p) + mm)) 0 (16 + p)) v w1 := by
  have hn := hR.np
  have ep : (nI p).toNatClampNeg = p := nI_clamp (by omega)
  have h1 := do_i (st_flood hR.1 ht (nI p) mm) h
  unfold M_flood at h1
  rw [if_pos (isP_ok hR.n hp), if_pos (iI_1_100.mpr hm), if_pos ((fl_iff hR hp hm).mpr hc)] at h1
  dsimp only at h1
  rw [ep] at h1
  rw [mset_s, mset_k (show (9 : Nat) ≠ 10 by decide), mset_k (show (9 : Nat) ≠ 29 by decide)] at h1
  rw [lset_s, lset_n (show ¬ (0 = 0 ∧ 16 + p = 24 + p) by omega), (hR.l.q hp).2.2.2.2.1]
  exact fin_0 h1 (by rw [mset_k (by decide), mset_k (by decide), mset_s]) (LRR_f (LRR_f (LRR_29 hR.l) hp (Or.inr (Or.inr (Or.inr ⟨rfl, rfl⟩)))) hp (Or.inr (Or.inr (Or.inl ⟨rfl, rfl⟩)))) (OB_t hR.2.2 (by rw [mset_k (by decide), mset_k (by decide), mset_k (by decide)]) (by rw [mset_k (by decide), mset_k (by decide), mset_k (by decide)]) (fun z => KI_t z (fun k a b => (by rw [mset_k (by omega), mset_k (by omega), mset_k (by omega)]))))
theorem fi3d {p : Nat} {mm : Int32} (hR : RR Z S M L t) (ht : t < 512) (hp : p < Z.N 0) (hm : 1 ≤ mm.toInt ∧ mm.toInt ≤ 100) (hc : ¬ ((¬ 2 ≤ L 1 p - L 1 p / 4 * 4) ∧ (¬ L 0 p + L 0 (8 + p) ≤ 0) ∧ ¬ (501 ≤ L 0 (16 + p) + mm))) (h : poE cvi (pvx (X_flood Z S (nI p) mm).1 (.int (X_flood Z S (nI p) mm).2.1) (xW T z Z (X_flood Z S (nI p) mm).2.2)) (px (X_flood Z S (nI p) mm).1 (xW T z Z S)) v w1) : FIN T z Z t L (-10000000) v w1 := by
  have h1 := do_i (st_flood hR.1 ht (nI p) mm) h
  unfold M_flood at h1
  rw [if_pos (isP_ok hR.n hp), if_pos (iI_1_100.mpr hm), if_neg (fun z => hc ((fl_iff hR hp hm).mp z))] at h1
  exact fin_3 h1 mset_s (LRR_29 hR.l) (OB_29 hR.2.2)
theorem fi4a {p : Nat} (hR : RR Z S M L t) (ht : t < 512) (hp : p < Z.N 0) (h : poE cvd (pvx (X_drill Z S (nI p)).1 (.double (X_drill Z S (nI p)).2.1) (xW T z Z (X_drill Z S (nI p)).2.2)) (px (X_drill Z S (nI p)).1 (xW T z Z S)) v w1) : FIN T z Z t (lset L 0 (32 + p) (L_twice L (nI p))) (L_twice (lset L 0 (32 + p) (L_twice L (nI p))) (nI p)) v w1 := by
  have hn := hR.np
  have ep : (nI p).toNatClampNeg = p := nI_clamp (by omega)
  have h1 := do_d (st_drill hR.1 ht (nI p)) h
  unfold M_drill at h1
  rw [if_pos (isP_ok hR.n hp)] at h1
  dsimp only at h1
  rw [ep] at h1
  have e9 : M_thick (mset M 29 0 0) (nI p) = hD (L_twice L (nI p)) := by
    rw [← L_thick_eq hR.l hR.i hp]
    unfold M_thick
    rw [mset_k (by decide), mset_k (by decide)]
  have e8 : ((mkset (mset M 29 0 0) p ⟨M_thick (mset M 29 0 0) (nI p), nn_thick _ _⟩).2 p).1 = hD (L_twice L (nI p)) := by
    show (ite (p = p) _ _ : NN).1 = _
    rw [if_pos rfl]
    exact e9
  rw [e8, hD_two] at h1
  have et : L_twice (lset L 0 (32 + p) (L_twice L (nI p))) (nI p) = L_twice L (nI p) := by
    unfold L_twice
    rw [ep, lset_n (by omega), lset_n (by omega)]
  rw [et]
  obtain ⟨b, wh, -, -, e3, g1, g2⟩ := L_twice_nI hR.l hR.i hp
  refine fin_0 h1 (by show (mset M 29 0 0).1 29 0 = 0; exact mset_s) (LRR_kn (LRR_29 hR.l) hp e9 ?_) (OB_t hR.2.2 (by show (mset M 29 0 0).1 0 0 = _; rw [mset_k (by decide)]) (by show (mset M 29 0 0).1 28 = _; rw [mset_k (by decide)]) (fun z => KI_t z (fun k a b => (by show (mset M 29 0 0).1 k = _; rw [mset_k (by omega)]))))
  rw [e3]
  unfold rng
  rw [nI_toInt (by omega)]
  omega
theorem fi4b {x : Int32} (hR : RR Z S M L t) (ht : t < 512) (h : poE cvd (pvx (X_drill Z S (nI (Z.N 0))).1 (.double (X_drill Z S (nI (Z.N 0))).2.1) (xW T z Z (X_drill Z S (nI (Z.N 0))).2.2)) (px (X_drill Z S (nI (Z.N 0))).1 (xW T z Z S)) v w1) : FIN T z Z t (lset L 0 56 x) (-30000000) v w1 := by
  have h1 := do_d (st_drill hR.1 ht (nI (Z.N 0))) h
  unfold M_drill at h1
  rw [if_neg (isP_no hR.n)] at h1
  exact fin_1 h1 mset_s (LRR_gb (LRR_29 hR.l) (Or.inl ⟨rfl, rfl⟩)) (OB_29 hR.2.2)
theorem fi5a {p o : Nat} (hR : RR Z S M L t) (ht : t < 512) (hp : p < Z.N 0) (ho : o ≤ 2) (h : poE cvi (pvx (X_open Z S (nI p) (nI o)).1 (.int (X_open Z S (nI p) (nI o)).2.1) (xW T z Z (X_open Z S (nI p) (nI o)).2.2)) (px (X_open Z S (nI p) (nI o)).1 (xW T z Z S)) v w1) : FIN T z Z t (lset L 1 p (L 1 p + 16 * (nI o - (L 1 p / 16 - L 1 p / 16 / 4 * 4)))) (L 1 p / 16 - L 1 p / 16 / 4 * 4) v w1 := by
  have hn := hR.np
  have ep : (nI p).toNatClampNeg = p := nI_clamp (by omega)
  have h1 := do_i (st_open hR.1 ht (nI p) (nI o)) h
  unfold M_open at h1
  rw [if_pos (isP_ok hR.n hp), if_pos (isIn_ok (by rw [nI_toInt (by omega)]; exact Int.natCast_nonneg _) (by rw [nI_toInt (by omega), show (2 : Int32).toInt = 2 by decide]; omega))] at h1
  dsimp only at h1
  rw [ep] at h1
  rw [mset_k (show (12 : Nat) ≠ 29 by decide)] at h1
  rw [(hR.l.p hp).opn]
  exact fin_0 h1 (by rw [mset_k (by decide), mset_s]) (LRR_fl (LRR_29 hR.l) hp (Or.inr (Or.inl ⟨rfl, rfl, ho⟩)) (by rw [mset_k (by decide)]; rfl)) (OB_t hR.2.2 (by rw [mset_k (by decide), mset_k (by decide)]) (by rw [mset_k (by decide), mset_k (by decide)]) (fun z => KI_t z (fun k a b => (by rw [mset_k (by omega), mset_k (by omega)]))))
theorem fi5b {p : Nat} {x : Int32} (hR : RR Z S M L t) (ht : t < 512) (hp : p < Z.N 0) (h : poE cvi (pvx (X_open Z S (nI p) (nI 3)).1 (.int (X_open Z S (nI p) (nI 3)).2.1) (xW T z Z (X_open Z S (nI p) (nI 3)).2.2)) (px (X_open Z S (nI p) (nI 3)).1 (xW T z Z S)) v w1) : FIN T z Z t (lset L 1 8 x) (-20000000) v w1 := by
  have h1 := do_i (st_open hR.1 ht (nI p) (nI 3)) h
  unfold M_open at h1
  rw [if_pos (isP_ok hR.n hp), if_neg (by unfold M_isIn; decide)] at h1
  exact fin_2 h1 mset_s (LRR_gb (LRR_29 hR.l) (Or.inr (Or.inl ⟨rfl, rfl⟩))) (OB_29 hR.2.2)
theorem fi5c {o x : Int32} (hR : RR Z S M L t) (ht : t < 512) (h : poE cvi (pvx (X_open Z S (nI (Z.N 0)) o).1 (.int (X_open Z S (nI (Z.N 0)) o).2.1) (xW T z Z (X_open Z S (nI (Z.N 0)) o).2.2)) (px (X_open Z S (nI (Z.N 0)) o).1 (xW T z Z S)) v w1) : FIN T z Z t (lset L 1 8 x) (-30000000) v w1 := by
  have h1 := do_i (st_open hR.1 ht (nI (Z.N 0)) o) h
  unfold M_open at h1
  rw [if_neg (isP_no hR.n)] at h1
  exact fin_1 h1 mset_s (LRR_gb (LRR_29 hR.l) (Or.inr (Or.inl ⟨rfl, rfl⟩))) (OB_29 hR.2.2)
theorem fi6a {p : Nat} {x : Int32} (hR : RR Z S M L t) (ht : t < 512) (hp : p < Z.N 0) (hx : 1 ≤ x.toInt ∧ x.toInt ≤ 300) (h : poE cvi (pvx (X_limit Z S (nI p) x).1 (.int (X_limit Z S (nI p) x).2.1) (xW T z Z (X_limit Z S (nI p) x).2.2)) (px (X_limit Z S (nI p) x).1 (xW T z Z S)) v w1) : FIN T z Z t (lset L 1 p (L 1 p + 64 * (x - L 1 p / 64))) (L 1 p / 64) v w1 := by
  have hn := hR.np
  have ep : (nI p).toNatClampNeg = p := nI_clamp (by omega)
  have h1 := do_i (st_limit hR.1 ht (nI p) x) h
  unfold M_limit at h1
  rw [if_pos (isP_ok hR.n hp), if_pos (iI_1_300.mpr hx)] at h1
  dsimp only at h1
  rw [ep] at h1
  rw [mset_k (show (13 : Nat) ≠ 29 by decide)] at h1
  rw [(hR.l.p hp).lim]
  obtain ⟨n, rfl, g1, g2⟩ := rng_nI (a := 1) (b := 300) (x := x) hx
  exact fin_0 h1 (by rw [mset_k (by decide), mset_s]) (LRR_fl (LRR_29 hR.l) hp (Or.inr (Or.inr ⟨rfl, rfl, g1, g2⟩)) (by rw [mset_k (by decide)]; rfl)) (OB_t hR.2.2 (by rw [mset_k (by decide), mset_k (by decide)]) (by rw [mset_k (by decide), mset_k (by decide)]) (fun z => KI_t z (fun k a b => (by rw [mset_k (by omega), mset_k (by omega)]))))
theorem fi6b {p : Nat} {x y : Int32} (hR : RR Z S M L t) (ht : t < 512) (hp : p < Z.N 0) (hx : ¬ (1 ≤ x.toInt ∧ x.toInt ≤ 300)) (h : poE cvi (pvx (X_limit Z S (nI p) x).1 (.int (X_limit Z S (nI p) x).2.1) (xW T z Z (X_limit Z S (nI p) x).2.2)) (px (X_limit Z S (nI p) x).1 (xW T z Z S)) v w1) : FIN T z Z t (lset L 1 8 y) (-20000000) v w1 := by
  have h1 := do_i (st_limit hR.1 ht (nI p) x) h
  unfold M_limit at h1
  rw [if_pos (isP_ok hR.n hp), if_neg (fun z => hx (iI_1_300.mp z))] at h1
  exact fin_2 h1 mset_s (LRR_gb (LRR_29 hR.l) (Or.inr (Or.inl ⟨rfl, rfl⟩))) (OB_29 hR.2.2)
theorem fi6c {o x : Int32} (hR : RR Z S M L t) (ht : t < 512) (h : poE cvi (pvx (X_limit Z S (nI (Z.N 0)) o).1 (.int (X_limit Z S (nI (Z.N 0)) o).2.1) (xW T z Z (X_limit Z S (nI (Z.N 0)) o).2.2)) (px (X_limit Z S (nI (Z.N 0)) o).1 (xW T z Z S)) v w1) : FIN T z Z t (lset L 1 8 x) (-30000000) v w1 := by
  have h1 := do_i (st_limit hR.1 ht (nI (Z.N 0)) o) h
  unfold M_limit at h1
  rw [if_neg (isP_no hR.n)] at h1
  exact fin_1 h1 mset_s (LRR_gb (LRR_29 hR.l) (Or.inr (Or.inl ⟨rfl, rfl⟩))) (OB_29 hR.2.2)
/-- snow on the first n pieces -/
def L_snow_s (S : LwS) (mm : Int32) (n : Nat) : LwS := lset S 0 (24 + n) (S 0 (24 + n) + mm)
def L_snow_f (S : LwS) (mm : Int32) : Nat → LwS
  | 0 => S
  | n + 1 => L_snow_s (L_snow_f S mm n) mm n
theorem L_snow_6 {S : LwS} {mm : Int32} : ∀ n, L_snow_f S mm n 6 = S 6 := by
  intro n
  induction n with
  | zero => rfl
  | succ n ih =>
    show lset (L_snow_f S mm n) 0 (24 + n) (L_snow_f S mm n 0 (24 + n) + mm) 6 = S 6
    rw [lset_k (by decide), ih]
theorem L_snow_eq {M : MS} {L : LwS} {np nv : Nat} {mm : Int32} (h : LRR M L np nv) : ∀ n, n ≤ np → LRR (M_snow_f M mm n) (L_snow_f L mm n) np nv := by
  intro n
  induction n with
  | zero => intro _; exact h
  | succ n ih =>
    intro hn
    have h8 := h.1
    have h1 := ih (by omega)
    show LRR (M_snow_s (M_snow_f M mm n) mm n) (L_snow_s (L_snow_f L mm n) mm n) np nv
    unfold M_snow_s L_snow_s
    dsimp only
    rw [nI_clamp (by omega), (h1.q (show n < np by omega)).2.2.2.2.2.1]
    exact LRR_f h1 (by omega) (Or.inr (Or.inr (Or.inr ⟨rfl, rfl⟩)))
theorem M_snow_f_k {M : MS} {mm : Int32} {k : Nat} (hk : k ≠ 10) : ∀ n, (M_snow_f M mm n).1 k = M.1 k := by
  intro n
  induction n with
  | zero => rfl
  | succ n ih =>
    show (M_snow_s (M_snow_f M mm n) mm n).1 k = _
    unfold M_snow_s
    dsimp only
    rw [mset_k hk, ih]
theorem fi1a {mm : Int32} (hR : RR Z S M L t) (ht : t < 512) (hx : 1 ≤ mm.toInt ∧ mm.toInt ≤ 500) (h : poE cvi (pvx (X_snow Z S mm).1 (.int (X_snow Z S mm).2.1) (xW T z Z (X_snow Z S mm).2.2)) (px (X_snow Z S mm).1 (xW T z Z S)) v w1) : FIN T z Z t (L_snow_f L mm (Z.N 0)) (nI (Z.N 0)) v w1 := by
  have hn := hR.np
  have h1 := do_i (st_snow hR.1 ht mm) h
  unfold M_snow at h1
  rw [if_pos (iI_1_500.mpr hx)] at h1
  dsimp only at h1
  have e3 : (mset M 29 0 0).1 3 0 = nI (Z.N 0) := by rw [mset_k (by decide)]; exact hR.n.1
  rw [e3, nI_clamp (by omega)] at h1
  rw [M_snow_f_k (by decide), e3] at h1
  exact fin_0 h1 (by rw [M_snow_f_k (by decide), mset_s]) (L_snow_eq (LRR_29 hR.l) _ (Nat.le_refl _)) (OB_t hR.2.2 (by rw [M_snow_f_k (by decide), mset_k (by decide)]) (by rw [M_snow_f_k (by decide), mset_k (by decide)]) (fun z => KI_t z (fun k a b => (by rw [M_snow_f_k (by omega), mset_k (by omega)]))))
theorem fi1b {mm : Int32} (hR : RR Z S M L t) (ht : t < 512) (hx : ¬ (1 ≤ mm.toInt ∧ mm.toInt ≤ 500)) (h : poE cvi (pvx (X_snow Z S mm).1 (.int (X_snow Z S mm).2.1) (xW T z Z (X_snow Z S mm).2.2)) (px (X_snow Z S mm).1 (xW T z Z S)) v w1) : FIN T z Z t L (-20000000) v w1 := by
  have h1 := do_i (st_snow hR.1 ht mm) h
  unfold M_snow at h1
  rw [if_neg (fun z => hx (iI_1_500.mp z))] at h1
  exact fin_1 h1 mset_s (LRR_29 hR.l) (OB_29 hR.2.2)
end
