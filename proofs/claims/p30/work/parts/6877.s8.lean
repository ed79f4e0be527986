/-! ===== what both sides say of a piece and a vehicle: weight borne, speed, minutes ===== -/
theorem cmp_gl {a b : UInt64} (ha : vf_n64 a) (hb : vf_n64 b) : Op.cmpValue (FP.dcmp a b) CmpOp.g = Op.cmpValue (FP.dcmp a b) CmpOp.l := by
  rcases hc : FP.dcmp a b with _ | o
  · exfalso
    have e : FP.Core.dcmp a b = none := hc
    rcases (FP.Core.dcmp_none a b).mp e with z | z
    · exact (FP.Core.notNaN_iff a).mp ((vf_core a).mp ha) z
    · exact (FP.Core.notNaN_iff b).mp ((vf_core b).mp hb) z
  · cases o <;> rfl
theorem thick_eq {Z : XZ} {S : XS} {M : MS} {nv p : Nat} (h : RP S M nv p) (hp : p < 2 ^ 31) : X_realThickness Z S p = M_thick M (nI p) := by
  unfold X_realThickness M_thick
  rw [nI_clamp hp, h.f 3 (by omega) (by omega), h.f 4 (by omega) (by omega)]
theorem bears_eq {Z : XZ} {S : XS} {M : MS} {nv p : Nat} {ub : Int32} (h : RP S M nv p) (hp : p < 2 ^ 31) : X_bearsAs Z S p ub = M_bearsBy M (nI p) (if ub = 0 then M_thick M (nI p) else (M.2 p).1) := by
  have et : X_thicknessAs Z S p ub = if ub = 0 then M_thick M (nI p) else (M.2 p).1 := by
    unfold X_thicknessAs
    dsimp only
    rw [thick_eq h hp, h.k]
  unfold X_bearsAs M_bearsBy M_isWater
  dsimp only
  rw [et, nI_clamp hp, h.1, h.f 6 (by omega) (by omega), h.f 7 (by omega) (by omega)]
  by_cases c : M.1 4 p = 2
  · rw [if_pos c, if_neg (c := ¬ M.1 4 p = 2) (fun z => z c)]
  · rw [if_neg c, if_pos (c := ¬ M.1 4 p = 2) c]
theorem i32_lt_le {a b : Int32} (h : a < b) (z : b ≤ a) : False := by
  rw [Int32.lt_iff_toInt_lt] at h
  rw [Int32.le_iff_toInt_le] at z
  omega
theorem i32_nlt_le {a b : Int32} (h : ¬ a < b) : b ≤ a := by
  rw [Int32.lt_iff_toInt_lt] at h
  rw [Int32.le_iff_toInt_le]
  omega
theorem i32_sq_nn (x : Int32) : vf_n64 (FP.i2d x) := (mag_i2d x).nn (by decide)
theorem spdW_eq {d : Int32} (hd : rng d 1 999) : ∀ (n m : Nat) (x : Int32), 1 ≤ x.toInt → x.toInt ≤ n → x.toInt ≤ m → X_speedW (FP.dmul c784 (FP.i2d d)) n x = M_speedW (FP.dmul c784 (FP.i2d d)) m x := by
  intro n
  induction n with
  | zero => intro m x h1 h2; exact absurd h2 (by omega)
  | succ n ih =>
    intro m x h1 h2 h3
    cases m with
    | zero => exact absurd h3 (by omega)
    | succ m =>
      show (if x ≤ 1 then x else if Op.cmpValue (FP.dcmp (FP.i2d (x * x)) (FP.dmul c784 (FP.i2d d))) CmpOp.l ≤ 0 then x else X_speedW (FP.dmul c784 (FP.i2d d)) n (x + (-1))) = (if Op.cmpValue (FP.dcmp (FP.i2d (x * x)) (FP.dmul c784 (FP.i2d d))) CmpOp.l ≤ 0 then x else M_speedW (FP.dmul c784 (FP.i2d d)) m (x + (-1)))
      by_cases c : Op.cmpValue (FP.dcmp (FP.i2d (x * x)) (FP.dmul c784 (FP.i2d d))) CmpOp.l ≤ 0
      · rw [if_pos c, if_pos c]
        split <;> rfl
      · have hx := wave_1 hd c
        have k : ¬ x ≤ 1 := fun z => hx (Int32.toInt_inj.mp (by
          rw [Int32.le_iff_toInt_le] at z
          rw [show (1 : Int32).toInt = 1 by decide] at z ⊢
          omega))
        rw [if_neg k, if_neg c, if_neg c]
        have e := i32_dec (i32_nle1 k)
        have h22 := i32_nle1 k
        exact ih m _ (by omega) (by omega) (by omega)
theorem min_ge {a b : Int32} : (if a < b then a else b) = (if a ≤ b then a else b) := by
  by_cases c : a < b
  · rw [if_pos c, if_pos (by rw [Int32.lt_iff_toInt_lt] at c; rw [Int32.le_iff_toInt_le]; omega)]
  · rw [if_neg c]
    split
    · rename_i d
      rw [Int32.lt_iff_toInt_lt] at c
      rw [Int32.le_iff_toInt_le] at d
      exact Int32.toInt_inj.mp (by omega)
    · rfl
theorem spd_eq {Z : XZ} {S : XS} {M : MS} {p j : Nat} (hp : p < 2 ^ 31) (hj : j < 2 ^ 31) (e0 : S.1 1 p 0 = M.1 4 p) (e2 : S.1 1 p 2 = M.1 6 p) (e9 : S.1 1 p 9 = M.1 13 p) (ev : S.1 2 j 2 = M.1 19 j) (hs : SPD M (nI j) (nI p)) : X_speedOf Z S p j = M_speedOn M (nI j) (nI p) := by
  have hs0 := hs
  unfold SPD at hs
  rw [nI_clamp hp, nI_clamp hj] at hs
  unfold X_speedOf M_speedOn M_isWater
  dsimp only
  rw [nI_clamp hp, nI_clamp hj, e0, e2, e9, ev, min_ge]
  have lo := spd_lo hs0 (x := if M.1 13 p ≤ M.1 19 j then M.1 13 p else M.1 19 j) (by rw [nI_clamp hp, nI_clamp hj])
  have hi := spd_hi hs0 (x := if M.1 13 p ≤ M.1 19 j then M.1 13 p else M.1 19 j) (by rw [nI_clamp hp, nI_clamp hj])
  generalize (if M.1 13 p ≤ M.1 19 j then M.1 13 p else M.1 19 j) = x at lo hi ⊢
  by_cases c : M.1 4 p = 2
  · rw [if_pos c, if_neg (fun z => z c)]
  · rw [if_neg c, if_pos c, cmp_gl (i32_sq_nn _) (nn_w1 _)]
    by_cases c2 : Op.cmpValue (FP.dcmp (FP.i2d (x * x)) (FP.dmul 4635217326480398746 (FP.i2d (M.1 6 p)))) CmpOp.l ≤ 0
    · rw [if_pos c2, if_pos c2]
    · rw [if_neg c2, if_neg c2, cmp_gl (i32_sq_nn _) (nn_w2 _)]
      by_cases c3 : Op.cmpValue (FP.dcmp (FP.i2d (x * x)) (FP.dmul 4637975781252163174 (FP.i2d (M.1 6 p)))) CmpOp.l < 0
      · rw [if_pos c3, if_neg (fun z => i32_lt_le c3 z)]
        refine spdW_eq hs.2.2 _ _ _ lo ?_ hi
        have e : x.toNatClampNeg = x.toInt.toNat := rfl
        rw [e]
        omega
      · rw [if_neg c3, if_pos (i32_nlt_le c3)]
theorem min_eq {Z : XZ} {S : XS} {M : MS} {p j : Nat} (hp : p < 2 ^ 31) (hj : j < 2 ^ 31) (e0 : S.1 1 p 0 = M.1 4 p) (e1 : S.1 1 p 1 = M.1 5 p) (e2 : S.1 1 p 2 = M.1 6 p) (e9 : S.1 1 p 9 = M.1 13 p) (ev : S.1 2 j 2 = M.1 19 j) (hs : SPD M (nI j) (nI p)) : X_minutesOf Z S p j = M_minutesOn M (nI j) (nI p) := by
  unfold X_minutesOf M_minutesOn
  dsimp only
  rw [spd_eq hp hj e0 e2 e9 ev hs, nI_clamp hp, e1]
  obtain ⟨n, e, l, u⟩ := rng_nI (a := 1) (b := 300) (M_speedOn_rng hs)
  rw [if_pos]
  rw [e, show (6 : Int32) = nI 6 from rfl, nI_mul]
  exact nI_lt (a := 0) (by omega) (by omega)
/-- the piece ahead -/
theorem ahead_eq {Z : XZ} {S : XS} {M : MS} {t j q : Nat} (h : RXN Z S M t) (hj : j < Z.N 1) (e : M_nextPiece M (nI j) = nI q) (hq : q < Z.N 0) : X_pieceAhead Z S j = q + 1 := by
  have hv := h.nv
  have hp := h.np
  have ev := h.v hj
  unfold M_nextPiece at e
  dsimp only at e
  rw [nI_clamp (by omega)] at e
  unfold X_pieceAhead
  dsimp only
  rw [ev.2.2.2.2.2.1, ev.2.2.2.2.1, e, if_neg (nI_pos (by omega)), if_pos (nI_lt hq (by omega)), nI_clamp (by omega)]
theorem came_eq {g now x m : Int32} (hg : rng g 0 120) (hn : rng now 0 200000) (h : cameR x m) : (g ≤ now - x) ↔ (g ≤ now - m) := by
  rcases h with ⟨rfl, rfl⟩ | ⟨rfl, -⟩
  · obtain ⟨a, b⟩ := hg
    obtain ⟨c, d⟩ := hn
    rw [Int32.le_iff_toInt_le, Int32.le_iff_toInt_le, Int32.toInt_sub, Int32.toInt_sub, show (-1000 : Int32).toInt = -1000 by decide, show (-1000000 : Int32).toInt = -1000000 by decide, Int.bmod_eq_of_le (by omega) (by omega), Int.bmod_eq_of_le (by omega) (by omega)]
    omega
  · exact Iff.rfl
theorem cnt_le {M : MS} {p : Nat} {b : Int32} : ∀ n, cntOn M p b n ≤ n
  | 0 => Nat.le_refl _
  | n + 1 => by
    show cntOn M p b n + iOn M p b n ≤ n + 1
    have := cnt_le (M := M) (p := p) (b := b) n
    have : iOn M p b n ≤ 1 := by unfold iOn; split <;> omega
    omega
theorem met_eq {M : MS} {q j : Nat} {b : Int32} : ∀ n, n ≤ 16 → (∀ i, i < n → (M.1 22 i ≠ M.1 22 j ↔ M.1 22 i = b)) → j < 2 ^ 31 → (M_isMet_f M (nI j) (nI q) n = 0 ↔ cntOn M q b n = 0)
  | 0, _, _, _ => ⟨fun _ => rfl, fun _ => rfl⟩
  | n + 1, hn, h, hj => by
    have ih := met_eq (M := M) (q := q) (j := j) (b := b) n (by omega) (fun i hi => h i (by omega)) hj
    show M_isMet_s M (nI j) (nI q) n (M_isMet_f M (nI j) (nI q) n) = 0 ↔ cntOn M q b n + iOn M q b n = 0
    unfold M_isMet_s iOn
    rw [nI_clamp (by omega), nI_clamp hj]
    have hb := h n (by omega)
    by_cases c1 : M_isMet_f M (nI j) (nI q) n = 0
    · by_cases c2 : M.1 20 n = 1 ∧ M.1 21 n = nI q ∧ M.1 22 n = b
      · rw [if_pos c2]
        constructor
        · intro z
          rw [bI_t (Or.inr ⟨c2.1, c2.2.1, hb.mpr c2.2.2⟩)] at z
          exact absurd z (by decide)
        · intro z; omega
      · rw [if_neg c2]
        constructor
        · intro _
          exact ih.mp c1
        · intro _
          refine bI_f (fun z => ?_)
          rcases z with z | z
          · exact z c1
          · exact c2 ⟨z.1, z.2.1, hb.mp z.2.2⟩
    · constructor
      · intro z
        rw [bI_t (Or.inl c1)] at z
        exact absurd z (by decide)
      · intro z
        exact absurd (ih.mpr (by omega)) c1
