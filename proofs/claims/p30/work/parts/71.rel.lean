/-! ===== the reference's state beside the law's arrays ===== -/
def LRp (M : MS) (S : LwS) (p : Nat) : Prop := ∃ k c o l : Nat, k ≤ 2 ∧ c ≤ 2 ∧ o ≤ 2 ∧ 1 ≤ l ∧ l ≤ 300 ∧ M.1 4 p = nI k ∧ M.1 11 p = nI c ∧ M.1 12 p = nI o ∧ M.1 13 p = nI l ∧ S 1 p = nI (k + 4 * c + 16 * o + 64 * l)
def LRq (M : MS) (S : LwS) (p : Nat) : Prop := S 2 p = M.1 5 p ∧ S 2 (8 + p) = M.1 6 p ∧ S 0 p = M.1 7 p ∧ S 0 (8 + p) = M.1 8 p ∧ S 0 (16 + p) = M.1 9 p ∧ S 0 (24 + p) = M.1 10 p ∧ (M.2 p).1 = hD (S 0 (32 + p)) ∧ rng (S 0 (32 + p)) 0 200000 ∧ S 0 (40 + p) = M.1 15 (2 * p) ∧ S 0 (48 + p) = M.1 15 (2 * p + 1)
def LRw (M : MS) (S : LwS) (j : Nat) : Prop := ∃ w a y g : Nat, w ≤ 4 ∧ a ≤ 8 ∧ y ≤ 1 ∧ g ≤ 3 ∧ M.1 20 j = nI w ∧ M.1 21 j = nI a ∧ M.1 22 j = nI y ∧ M.1 25 j = nI g - 1 ∧ S 3 j = nI (w + 8 * a + 128 * y + 256 * g) ∧ ((g = 0 ∧ M.1 24 j = 0) ∨ (0 < g ∧ 0 < (M.1 24 j).toInt))
def LRx (M : MS) (S : LwS) (j : Nat) : Prop := S 4 j = M.1 17 j ∧ S 4 (8 + j) = M.1 24 j ∧ S 4 (16 + j) = M.1 18 j ∧ S 4 (24 + j) = M.1 19 j ∧ S 4 (32 + j) = M.1 23 j
def LRk (M : MS) (S : LwS) (g : Nat) : Prop := S 5 g = M.1 26 g ∧ S 5 (3 + g) = M.1 27 g ∧ S 5 (6 + g) = M.1 28 g
def LRg (M : MS) (S : LwS) (np nv : Nat) : Prop := S 6 0 = M.1 0 0 ∧ S 6 1 = M.1 1 0 ∧ S 6 2 = M.1 2 0 ∧ S 6 3 = nI np ∧ S 6 4 = nI nv
def LRf (S : LwS) (p : Nat) : Prop := S 0 p = 0 ∧ S 0 (8 + p) = 0 ∧ S 0 (16 + p) = 0 ∧ S 0 (24 + p) = 0 ∧ S 0 (32 + p) = 0
def LRh (S : LwS) (j : Nat) : Prop := S 3 j = 0 ∧ S 4 (8 + j) = 0 ∧ S 4 (32 + j) = 0
def LRR (M : MS) (S : LwS) (np nv : Nat) : Prop := np ≤ 8 ∧ nv ≤ 8 ∧ LRg M S np nv ∧ (∀ p, p < np → LRp M S p ∧ LRq M S p) ∧ (∀ j, j < nv → LRw M S j ∧ LRx M S j) ∧ (∀ g, g < 3 → LRk M S g) ∧ (∀ p, np ≤ p → p < 8 → LRf S p) ∧ ∀ j, nv ≤ j → j < 8 → LRh S j
theorem LRp.kind {M : MS} {S : LwS} {p : Nat} (h : LRp M S p) : S 1 p - S 1 p / 4 * 4 = M.1 4 p := by
  obtain ⟨k, c, o, l, h1, h2, h3, h4, h5, e1, e2, e3, e4, e⟩ := h
  rw [e, r4 (by omega), e1]
  congr 1
  omega
theorem LRp.crack {M : MS} {S : LwS} {p : Nat} (h : LRp M S p) : S 1 p / 4 - S 1 p / 4 / 4 * 4 = M.1 11 p := by
  obtain ⟨k, c, o, l, h1, h2, h3, h4, h5, e1, e2, e3, e4, e⟩ := h
  rw [e, d4 (by omega), r4 (by omega), e2]
  congr 1
  omega
theorem LRp.opn {M : MS} {S : LwS} {p : Nat} (h : LRp M S p) : S 1 p / 16 - S 1 p / 16 / 4 * 4 = M.1 12 p := by
  obtain ⟨k, c, o, l, h1, h2, h3, h4, h5, e1, e2, e3, e4, e⟩ := h
  rw [e, d16 (by omega), r4 (by omega), e3]
  congr 1
  omega
theorem LRp.lim {M : MS} {S : LwS} {p : Nat} (h : LRp M S p) : S 1 p / 64 = M.1 13 p := by
  obtain ⟨k, c, o, l, h1, h2, h3, h4, h5, e1, e2, e3, e4, e⟩ := h
  rw [e, d64 (by omega), e4]
  congr 1
  omega
theorem LRw.wh {M : MS} {S : LwS} {j : Nat} (h : LRw M S j) : S 3 j - S 3 j / 8 * 8 = M.1 20 j := by
  obtain ⟨w, a, y, g, h1, h2, h3, h4, e1, e2, e3, e4, e, -⟩ := h
  rw [e, r8 (by omega), e1]
  congr 1
  omega
theorem LRw.at_ {M : MS} {S : LwS} {j : Nat} (h : LRw M S j) : S 3 j / 8 - S 3 j / 8 / 16 * 16 = M.1 21 j := by
  obtain ⟨w, a, y, g, h1, h2, h3, h4, e1, e2, e3, e4, e, -⟩ := h
  rw [e, d8 (by omega), r16 (by omega), e2]
  congr 1
  omega
theorem LRw.way {M : MS} {S : LwS} {j : Nat} (h : LRw M S j) : S 3 j / 128 - S 3 j / 128 / 2 * 2 = M.1 22 j := by
  obtain ⟨w, a, y, g, h1, h2, h3, h4, e1, e2, e3, e4, e, -⟩ := h
  rw [e, d128 (by omega), r2 (by omega), e3]
  congr 1
  omega
theorem LRw.goods {M : MS} {S : LwS} {j : Nat} (h : LRw M S j) : S 3 j / 256 - 1 = M.1 25 j := by
  obtain ⟨w, a, y, g, h1, h2, h3, h4, e1, e2, e3, e4, e, -⟩ := h
  rw [e, d256 (by omega), e4]
  congr 2
  omega
theorem LRw.w01 {M : MS} {S : LwS} {j : Nat} (h : LRw M S j) : M.1 22 j = 0 ∨ M.1 22 j = 1 := by
  obtain ⟨w, a, y, g, h1, h2, h3, h4, e1, e2, e3, e4, e, -⟩ := h
  rcases (show y = 0 ∨ y = 1 by omega) with rfl | rfl
  · exact Or.inl e3
  · exact Or.inr e3
theorem LRR.p {M : MS} {S : LwS} {np nv p : Nat} (h : LRR M S np nv) (hp : p < np) : LRp M S p := (h.2.2.2.1 p hp).1
theorem LRR.q {M : MS} {S : LwS} {np nv p : Nat} (h : LRR M S np nv) (hp : p < np) : LRq M S p := (h.2.2.2.1 p hp).2
theorem LRR.w {M : MS} {S : LwS} {np nv j : Nat} (h : LRR M S np nv) (hj : j < nv) : LRw M S j := (h.2.2.2.2.1 j hj).1
theorem LRR.x {M : MS} {S : LwS} {np nv j : Nat} (h : LRR M S np nv) (hj : j < nv) : LRx M S j := (h.2.2.2.2.1 j hj).2
theorem LRR.k {M : MS} {S : LwS} {np nv g : Nat} (h : LRR M S np nv) (hg : g < 3) : LRk M S g := h.2.2.2.2.2.1 g hg
theorem LRR.g {M : MS} {S : LwS} {np nv : Nat} (h : LRR M S np nv) : LRg M S np nv := h.2.2.1
/-- what both say: weights, who comes the other way, what is borne, speed, minutes -/
theorem L_weights_f_eq {M : MS} {S : LwS} {np nv : Nat} {x : Int32} (h : LRR M S np nv) : ∀ n, n ≤ nv → L_weights_f S x n = M_weights_f M x n := by
  intro n
  induction n with
  | zero => intro _; rfl
  | succ n ih =>
    intro hn
    have hv := h.2.1
    have hw := h.w (show n < nv by omega)
    have hx := h.x (show n < nv by omega)
    show L_weights_s S x n (L_weights_f S x n) = M_weights_s M x n (M_weights_f M x n)
    rw [ih (by omega)]
    unfold L_weights_s M_weights_s M_weight
    dsimp only
    rw [nI_clamp (show n < 2 ^ 31 by omega), hw.wh, hw.at_, hx.1, hx.2.1]
theorem L_weights_eq {M : MS} {S : LwS} {np nv : Nat} {x : Int32} (h : LRR M S np nv) (hN : MNn M np nv) : L_weights S x = M_weights M x := by
  have hv := h.2.1
  unfold L_weights M_weights
  rw [hN.2.2.1, h.g.2.2.2.2, nI_clamp (by omega)]
  exact L_weights_f_eq h nv (Nat.le_refl _)
theorem L_isMet_f_eq {M : MS} {S : LwS} {np nv : Nat} {x : Int32} {v : Int32} (h : LRR M S np nv) : ∀ n, n ≤ nv → L_isMet_f S (M.1 22 v.toNatClampNeg) x n = M_isMet_f M v x n := by
  intro n
  induction n with
  | zero => intro _; rfl
  | succ n ih =>
    intro hn
    have hv := h.2.1
    have hw := h.w (show n < nv by omega)
    show L_isMet_s S (M.1 22 v.toNatClampNeg) x n (L_isMet_f S (M.1 22 v.toNatClampNeg) x n) = M_isMet_s M v x n (M_isMet_f M v x n)
    rw [ih (by omega)]
    unfold L_isMet_s M_isMet_s
    dsimp only
    rw [nI_clamp (show n < 2 ^ 31 by omega), hw.wh, hw.at_, hw.way]
theorem L_twice_nI {M : MS} {S : LwS} {np nv t p : Nat} (h : LRR M S np nv) (hI : MI M np nv t) (hp : p < np) : ∃ b wh : Nat, M.1 7 p = nI b ∧ M.1 8 p = nI wh ∧ L_twice S (nI p) = nI (2 * b + wh) ∧ b ≤ 24480 ∧ wh ≤ 51200 := by
  obtain ⟨b, wh, wa, sn, e1, e2, e3, e4, g1, g2, g3, g4⟩ := fz_data hI hp
  have hn := h.1
  refine ⟨b, wh, e1, e2, ?_, g1, by omega⟩
  unfold L_twice
  rw [nI_clamp (by omega), (h.q hp).2.2.1, (h.q hp).2.2.2.1, e1, e2, nI_two, nI_add]
theorem L_thick_eq {M : MS} {S : LwS} {np nv t p : Nat} (h : LRR M S np nv) (hI : MI M np nv t) (hp : p < np) : M_thick M (nI p) = hD (L_twice S (nI p)) := by
  obtain ⟨b, wh, e1, e2, e3, g1, g2⟩ := L_twice_nI h hI hp
  have hn := h.1
  unfold M_thick
  rw [nI_clamp (by omega), e1, e2, e3]
  refine hD_thick ?_ ?_ ?_
  · rw [nI_toInt (by omega)]; omega
  · rw [nI_toInt (by omega)]; omega
  · rw [nI_toInt (by omega), nI_toInt (by omega), nI_toInt (by omega)]; omega
theorem L_bears_eq {M : MS} {S : LwS} {np nv t p : Nat} {x : Int32} (h : LRR M S np nv) (hI : MI M np nv t) (hp : p < np) : L_bears S (nI p) x = M_bearsBy M (nI p) (hD x) := by
  obtain ⟨b, wh, wa, sn, e1, e2, e3, e4, g1, g2, g3, g4⟩ := fz_data hI hp
  have hn := h.1
  have hP := h.p hp
  unfold L_bears M_bearsBy M_isWater
  dsimp only
  rw [nI_clamp (show p < 2 ^ 31 by omega), hP.kind, hP.crack, (h.q hp).2.2.2.2.2.1, e4]
  by_cases c : M.1 4 p = 2
  · rw [if_pos c, if_neg (c := ¬ M.1 4 p = 2) (fun z => z c)]
    by_cases c2 : sn ≤ 99
    · rw [if_pos (show nI sn ≤ 99 from nI_le (b := 99) c2 (by decide)), if_pos (show nI sn < 100 from nI_lt (b := 100) (by omega) (by decide))]
    · rw [if_neg (show ¬ nI sn ≤ 99 from fun z => c2 ((nI_leI (b := 99) (by omega) (by decide)).mp z)), if_neg (show ¬ nI sn < 100 from fun z => absurd ((nI_ltI (b := 100) (by omega) (by decide)).mp z) (by omega))]
  · rw [if_neg c, if_pos c]
    rfl
theorem L_speed_eq {M : MS} {S : LwS} {np nv t p j : Nat} (h : LRR M S np nv) (hI : MI M np nv t) (hp : p < np) (hj : j < nv) : L_speed S (nI j) (nI p) = M_speedOn M (nI j) (nI p) := by
  have hn := h.1
  have hv := h.2.1
  have hP := h.p hp
  obtain ⟨hs1, hs2, hs3⟩ := MI_spd' hI hj hp
  have ep : (nI p).toNatClampNeg = p := nI_clamp (by omega)
  have ej : (nI j).toNatClampNeg = j := nI_clamp (by omega)
  unfold L_speed M_speedOn M_isWater
  dsimp only
  rw [ep] at hs2 hs3
  rw [ej] at hs1
  rw [ep, ej, hP.kind, hP.lim, (h.x hj).2.2.2.1, (h.q hp).2.1]
  have hx : rng (if M.1 13 p ≤ M.1 19 j then M.1 13 p else M.1 19 j) 1 300 := by
    split
    · exact hs2
    · exact hs1
  generalize (if M.1 13 p ≤ M.1 19 j then M.1 13 p else M.1 19 j) = x at hx ⊢
  have hk : M.1 4 p = 2 ↔ 2 ≤ M.1 4 p := by
    obtain ⟨k, c, o, l, h1, h2, h3, h4, h5, e1, -⟩ := hP
    rw [e1]
    constructor
    · intro z
      have := (nI_eq (b := 2) (by omega) (by decide)).mp z
      exact nI_le (a := 2) (by omega) (by omega)
    · intro z
      have := (nI_leI (a := 2) (by decide) (by omega)).mp z
      exact (nI_eq (b := 2) (by omega) (by decide)).mpr (by omega)
  by_cases c1 : M.1 4 p = 2
  · rw [if_neg (fun z => z.1 (hk.mp c1)), if_neg (fun z => z c1)]
  · rw [if_pos (show ¬ M.1 4 p = 2 from c1)]
    by_cases c2 : Op.cmpValue (FP.dcmp (FP.i2d (x * x)) (FP.dmul (4635217326480398746 : UInt64) (FP.i2d (M.1 6 p)))) CmpOp.l ≤ 0
    · rw [if_neg (fun z => z.2.1 c2), if_pos c2]
    · rw [if_neg c2]
      by_cases c3 : 0 ≤ Op.cmpValue (FP.dcmp (FP.i2d (x * x)) (FP.dmul (4637975781252163174 : UInt64) (FP.i2d (M.1 6 p)))) CmpOp.g
      · rw [if_neg (fun z => z.2.2 c3), if_pos c3]
      · rw [if_neg c3, if_pos ⟨fun z => c1 (hk.mpr z), c2, c3⟩]
        exact (lst_eq hs3 hx c2).symm
theorem L_speed_nI {M : MS} {S : LwS} {np nv t p j : Nat} (h : LRR M S np nv) (hI : MI M np nv t) (hp : p < np) (hj : j < nv) : ∃ s : Nat, L_speed S (nI j) (nI p) = nI s ∧ M_speedOn M (nI j) (nI p) = nI s ∧ 1 ≤ s ∧ s ≤ 300 := by
  have hr := M_speedOn_rng (MI_spd' hI hj hp)
  obtain ⟨s, e, h1, h2⟩ := rng_nI (a := 1) (b := 300) hr
  exact ⟨s, (L_speed_eq h hI hp hj).trans e, e, h1, h2⟩
theorem L_spd_ne {M : MS} {S : LwS} {np nv t p j : Nat} (h : LRR M S np nv) (hI : MI M np nv t) (hp : p < np) (hj : j < nv) : ¬ 6 * L_speed S (nI j) (nI p) = 0 := by
  obtain ⟨s, e, -, h1, h2⟩ := L_speed_nI h hI hp hj
  rw [e, show (6 : Int32) = nI 6 from rfl, nI_mul]
  exact nI_ne0 (by omega) (by omega)
theorem L_minutes_eq {M : MS} {S : LwS} {np nv t p j : Nat} (h : LRR M S np nv) (hI : MI M np nv t) (hp : p < np) (hj : j < nv) : L_minutes S (nI j) (nI p) = M_minutesOn M (nI j) (nI p) := by
  obtain ⟨s, e, e', h1, h2⟩ := L_speed_nI h hI hp hj
  have hn := h.1
  obtain ⟨m, em, g1, g2⟩ := rng_nI (a := 1) (b := 20000) (hI.2.2.2.1 p hp).2.2
  unfold L_minutes M_minutesOn
  rw [e, e', nI_clamp (by omega), (h.q hp).1, em, show (6 : Int32) = nI 6 from rfl, nI_mul, nI_rem (by omega) (by omega), nI_div (by omega) (by omega), nI_add, show (1 : Int32) = nI 1 from rfl, nI_sub' (by omega), nI_div (by omega) (by omega)]
  have hpos : 0 < 6 * s := by omega
  clear e e'
  generalize 6 * s = D at hpos ⊢
  have hdm := Nat.div_add_mod m D
  have hlt := Nat.mod_lt m hpos
  have hml := Nat.mul_comm D (m / D)
  by_cases c : m % D = 0
  · rw [c, bI_f (fun z => z (by decide))]
    rw [show (0 : Int32) = nI 0 from rfl, nI_add]
    congr 1
    rw [Nat.add_zero]
    symm
    refine Nat.div_eq_of_lt_le ?_ ?_
    · omega
    · rw [Nat.add_mul, Nat.one_mul]; omega
  · rw [bI_t (nI_nle (by omega) (by omega)), show (1 : Int32) = nI 1 from rfl, nI_add]
    congr 1
    symm
    refine Nat.div_eq_of_lt_le ?_ ?_
    · rw [Nat.add_mul, Nat.one_mul]; omega
    · rw [Nat.add_mul, Nat.add_mul, Nat.one_mul]; omega
