/-! ===== halves of whole numbers as doubles: sums, differences, products with 0.5 and 2.0, quotients by 2.0, all exact ===== -/
def dblD (x : FP.Core.Datum) : FP.Core.Datum := match x with
  | .fin s c q => .fin s c (q + 1)
  | .nan => .nan
  | .inf s => .inf s
theorem hf_sum {i j : Int} {x y : FP.Core.Datum} (hx : FP.Core.Whole i (dblD x)) (hy : FP.Core.Whole j (dblD y)) : FP.Core.Whole (i + j) (dblD (FP.Core.exactSum x y)) := by
  cases x with
  | nan => exact hx.elim
  | inf => exact hx.elim
  | fin s c q =>
    cases y with
    | nan => exact hy.elim
    | inf => exact hy.elim
    | fin t d r =>
      have h := FP.Core.whole_sum hx hy
      have e1 : min (q + 1) (r + 1) = min q r + 1 := by omega
      have e2 : FP.Core.sumUnits s c (q + 1) t d (r + 1) (min q r + 1) = FP.Core.sumUnits s c q t d r (min q r) := by
        unfold FP.Core.sumUnits FP.Core.inUnits
        rw [show q + 1 - (min q r + 1) = q - min q r by omega, show r + 1 - (min q r + 1) = r - min q r by omega]
      have e : FP.Core.exactSum (dblD (.fin s c q)) (dblD (.fin t d r)) = dblD (FP.Core.exactSum (.fin s c q) (.fin t d r)) := by
        show FP.Core.Datum.fin (FP.Core.sumSign s t (FP.Core.sumUnits s c (q + 1) t d (r + 1) (min (q + 1) (r + 1)))) (FP.Core.sumUnits s c (q + 1) t d (r + 1) (min (q + 1) (r + 1))).natAbs (min (q + 1) (r + 1)) = FP.Core.Datum.fin (FP.Core.sumSign s t (FP.Core.sumUnits s c q t d r (min q r))) (FP.Core.sumUnits s c q t d r (min q r)).natAbs (min q r + 1)
        rw [e1, e2]
      rw [← e]
      exact h
theorem hf_neg {i : Int} {x : FP.Core.Datum} (hx : FP.Core.Whole i (dblD x)) : FP.Core.Whole (-i) (dblD (FP.Core.negate x)) := by
  cases x with
  | nan => exact hx.elim
  | inf => exact hx.elim
  | fin s c q => exact FP.Core.whole_negate (x := .fin s c (q + 1)) hx
theorem hf_round {i : Int} {s : Bool} {c : Nat} {q : Int} (h : FP.Core.Whole i (dblD (.fin s c q))) : FP.Core.round FP.Core.b64 (.fin s c q) = FP.Core.roundRatio FP.Core.b64 s i.natAbs 2 0 := by
  have h1 : c * 2 ^ (q + 1).toNat = i.natAbs * 2 ^ (-(q + 1)).toNat := FP.Core.whole_natAbs (i := i) (s := s) (c := c) (q := q + 1) h
  refine FP.Core.roundRatio_congr (by decide) (by decide) ?_
  by_cases hq : 0 ≤ q
  · rw [show (q - 0).toNat = q.toNat by omega, show (0 - q).toNat = 0 by omega]
    rw [show (q + 1).toNat = q.toNat + 1 by omega, show (-(q + 1)).toNat = 0 by omega, Nat.pow_succ, Nat.pow_zero, Nat.mul_one] at h1
    rw [Nat.pow_zero, Nat.mul_one, Nat.mul_one, ← h1, Nat.mul_assoc, Nat.mul_comm 2]
  · rw [show (q - 0).toNat = 0 by omega, show (0 - q).toNat = (-(q + 1)).toNat + 1 by omega, Nat.pow_succ, Nat.pow_zero, Nat.mul_one, Nat.mul_one]
    rw [show (q + 1).toNat = 0 by omega, Nat.pow_zero, Nat.mul_one] at h1
    rw [h1, Nat.mul_assoc]
theorem hf_can {i : Int} {s : Bool} (hs : i ≠ 0 → s = decide (i < 0)) (hi : i.natAbs ≤ 2 ^ 53) : FP.Core.Whole i (dblD (FP.Core.roundRatio FP.Core.b64 s i.natAbs 2 0)) := by
  by_cases h0 : i = 0
  · subst h0
    show FP.Core.signed s (0 * _) = 0 * _
    rw [Nat.zero_mul, FP.Core.signed_zero, Int.zero_mul]
  · obtain ⟨c', q', hfit, hv⟩ := FP.Core.natFit FP.Core.good_b64 FP.Core.wide_b64 s (n := i.natAbs) hi
    have hW : FP.Core.Whole i (.fin s i.natAbs 0) := by
      show FP.Core.signed s (i.natAbs * 1) = i * ((1 : Nat) : Int)
      rw [hs h0, Nat.mul_one]
      unfold FP.Core.signed
      by_cases h : i < 0 <;> simp [h] <;> omega
    have h2 : FP.Core.Whole i (FP.Core.round FP.Core.b64 (.fin s i.natAbs 0)) := FP.Core.whole_round FP.Core.good_b64 FP.Core.wide_b64 hi hW
    have e2 : FP.Core.round FP.Core.b64 (.fin s i.natAbs 0) = .fin s c' q' := FP.Core.roundRatio_exact FP.Core.good_b64 (by decide) hfit hv
    rw [e2] at h2
    have hn : 1 ≤ i.natAbs := by omega
    obtain ⟨f1, f2, f3, f4⟩ := hfit
    have hqm : FP.Core.b64.qmin = -1074 := by decide
    have hp : (2 : Nat) ^ FP.Core.b64.p = 2 ^ 53 := by decide
    rw [hqm] at f2 f4
    have hq : -1074 < q' := by
      refine Int.lt_iff_le_and_ne.mpr ⟨f2, fun z => ?_⟩
      rw [← z, show (0 - (-1074 : Int)).toNat = 1074 by decide, show (-1074 - (0 : Int)).toNat = 0 by decide, Nat.pow_zero, Nat.mul_one, Nat.mul_one] at hv
      rw [hp] at f1
      have p1 : (2 : Nat) ^ 53 ≤ 2 ^ 1074 := Nat.pow_le_pow_right (by decide) (by decide)
      have p2 : (2 : Nat) ^ 1074 ≤ i.natAbs * 2 ^ 1074 := Nat.le_mul_of_pos_left _ hn
      omega
    have e3 : FP.Core.roundRatio FP.Core.b64 s i.natAbs 2 0 = .fin s c' (q' - 1) := by
      refine FP.Core.roundRatio_exact FP.Core.good_b64 (by decide) ⟨f1, by rw [hqm]; omega, by omega, ?_⟩ ?_
      · rcases f4 with f4 | f4
        · omega
        · exact Or.inr f4
      · by_cases hq0 : q' ≤ 0
        · rw [show (0 - (q' - 1)).toNat = (0 - q').toNat + 1 by omega, show (q' - 1 - 0).toNat = 0 by omega, Nat.pow_succ, Nat.pow_zero, Nat.mul_one]
          rw [show (q' - 0).toNat = 0 by omega, Nat.pow_zero, Nat.mul_one, Nat.mul_one] at hv
          rw [← Nat.mul_assoc, hv]
        · rw [show (0 - (q' - 1)).toNat = 0 by omega, Nat.pow_zero, Nat.mul_one]
          rw [show (0 - q').toNat = 0 by omega, show (q' - 0).toNat = (q' - 1 - 0).toNat + 1 by omega, Nat.pow_succ, Nat.pow_zero, Nat.mul_one, Nat.mul_one] at hv
          rw [hv, Nat.mul_assoc, Nat.mul_comm 2]
    rw [e3]
    show FP.Core.Whole i (.fin s c' (q' - 1 + 1))
    rw [show q' - 1 + 1 = q' by omega]
    exact h2
theorem hf_sgn {i : Int} {s : Bool} {c : Nat} {q : Int} (h : FP.Core.Whole i (dblD (.fin s c q))) : i ≠ 0 → s = decide (i < 0) := fun hi => FP.Core.whole_sign (i := i) (s := s) (c := c) (q := q + 1) h hi
theorem hf_keep {i : Int} {x : FP.Core.Datum} (h : FP.Core.Whole i (dblD x)) (hi : i.natAbs ≤ 2 ^ 53) : FP.Core.Whole i (dblD (FP.Core.round FP.Core.b64 x)) := by
  cases x with
  | nan => exact h.elim
  | inf => exact h.elim
  | fin s c q =>
    rw [hf_round h]
    exact hf_can (hf_sgn h) hi
theorem hf_unique {i : Int} (hi : i ≠ 0) {x y : FP.Core.Datum} (hx : FP.Core.Whole i (dblD x)) (hy : FP.Core.Whole i (dblD y)) (fx : FP.Core.fits FP.Core.b64 x) (fy : FP.Core.fits FP.Core.b64 y) : x = y := by
  cases x with
  | nan => exact hx.elim
  | inf => exact hx.elim
  | fin s c q =>
    cases y with
    | nan => exact hy.elim
    | inf => exact hy.elim
    | fin t d r => rw [← FP.Core.round_of_fits FP.Core.good_b64 fx, ← FP.Core.round_of_fits FP.Core.good_b64 fy, hf_round hx, hf_round hy, hf_sgn hx hi, hf_sgn hy hi]
theorem hf_order {i j : Int} {x y : FP.Core.Datum} (hx : FP.Core.Whole i (dblD x)) (hy : FP.Core.Whole j (dblD y)) : FP.Core.order x y = some (compare i j) := by
  cases x with
  | nan => exact hx.elim
  | inf => exact hx.elim
  | fin s c q =>
    cases y with
    | nan => exact hy.elim
    | inf => exact hy.elim
    | fin t d r =>
      rw [← FP.Core.order_whole hx hy]
      show some (compare (FP.Core.signed s (FP.Core.inUnits c q (min q r))) (FP.Core.signed t (FP.Core.inUnits d r (min q r)))) = some (compare (FP.Core.signed s (FP.Core.inUnits c (q + 1) (min (q + 1) (r + 1)))) (FP.Core.signed t (FP.Core.inUnits d (r + 1) (min (q + 1) (r + 1)))))
      unfold FP.Core.inUnits
      rw [show q + 1 - min (q + 1) (r + 1) = q - min q r by omega, show r + 1 - min (q + 1) (r + 1) = r - min q r by omega]
theorem hf_of {i : Int} {x : FP.Core.Datum} (h : FP.Core.Whole i x) : FP.Core.Whole (2 * i) (dblD x) := by
  cases x with
  | nan => exact h.elim
  | inf => exact h.elim
  | fin s c q =>
    have h1 : FP.Core.signed s (c * 2 ^ q.toNat) = i * ((2 ^ (-q).toNat : Nat) : Int) := h
    show FP.Core.signed s (c * 2 ^ (q + 1).toNat) = 2 * i * ((2 ^ (-(q + 1)).toNat : Nat) : Int)
    by_cases hq : 0 ≤ q
    · rw [show (q + 1).toNat = q.toNat + 1 by omega, Nat.pow_succ, ← Nat.mul_assoc, FP.Core.signed_mul, h1, show (-q).toNat = 0 by omega, show (-(q + 1)).toNat = 0 by omega]
      simp only [Nat.pow_zero]
      omega
    · rw [show q.toNat = 0 by omega, show (-q).toNat = (-(q + 1)).toNat + 1 by omega, Nat.pow_succ, Int.natCast_mul] at h1
      rw [show (q + 1).toNat = 0 by omega, h1, Int.mul_comm 2 i, Int.mul_assoc, Int.mul_comm 2]
      rfl
abbrev c2d : UInt64 := 4611686018427387904
theorem v_c05 : FP.Core.val64 c05 = .fin false (2 ^ 52) (-53) := by decide +kernel
theorem v_c2 : FP.Core.val64 c2d = .fin false (2 ^ 52) (-51) := by decide +kernel
theorem w_one : FP.Core.Whole 1 (.fin false (2 ^ 52) (-52)) := by
  show FP.Core.signed false (2 ^ 52 * 2 ^ (-52 : Int).toNat) = 1 * ((2 ^ (-(-52 : Int)).toNat : Nat) : Int)
  decide +kernel
theorem hf_half {i : Int} {a : UInt64} (ha : FP.Core.DInt i a) (hi : i.natAbs ≤ 2 ^ 53) : FP.Core.Whole i (dblD (FP.Core.val64 (FP.dmul c05 a))) := by
  have e : FP.Core.val64 (FP.dmul c05 a) = FP.Core.round FP.Core.b64 (FP.Core.exactProduct (FP.Core.val64 c05) (FP.Core.val64 a)) := FP.Core.val64_dmul _ _
  rw [e, v_c05]
  refine hf_keep ?_ hi
  unfold FP.Core.DInt at ha
  generalize FP.Core.val64 a = x at ha ⊢
  cases x with
  | nan => exact ha.elim
  | inf => exact ha.elim
  | fin t d r =>
    have h := FP.Core.whole_product w_one ha
    rw [Int.one_mul] at h
    have e2 : dblD (FP.Core.exactProduct (.fin false (2 ^ 52) (-53)) (.fin t d r)) = FP.Core.exactProduct (.fin false (2 ^ 52) (-52)) (.fin t d r) := by
      show FP.Core.Datum.fin _ _ (-53 + r + 1) = FP.Core.Datum.fin _ _ (-52 + r)
      rw [show (-53 + r + 1 : Int) = -52 + r by omega]
    rw [e2]
    exact h
theorem hf_two {i : Int} {a : UInt64} (ha : FP.Core.Whole i (dblD (FP.Core.val64 a))) (hi : i.natAbs ≤ 2 ^ 53) : FP.Core.DInt i (FP.dmul c2d a) := by
  have e : FP.Core.val64 (FP.dmul c2d a) = FP.Core.round FP.Core.b64 (FP.Core.exactProduct (FP.Core.val64 c2d) (FP.Core.val64 a)) := FP.Core.val64_dmul _ _
  unfold FP.Core.DInt
  rw [e, v_c2]
  refine FP.Core.whole_round FP.Core.good_b64 FP.Core.wide_b64 hi ?_
  generalize FP.Core.val64 a = x at ha ⊢
  cases x with
  | nan => exact ha.elim
  | inf => exact ha.elim
  | fin t d r =>
    have h := FP.Core.whole_product w_one ha
    rw [Int.one_mul] at h
    have e2 : FP.Core.exactProduct (.fin false (2 ^ 52) (-51)) (.fin t d r) = FP.Core.exactProduct (.fin false (2 ^ 52) (-52)) (dblD (.fin t d r)) := by
      show FP.Core.Datum.fin _ _ (-51 + r) = FP.Core.Datum.fin _ _ (-52 + (r + 1))
      rw [show (-52 + (r + 1) : Int) = -51 + r by omega]
    rw [e2]
    exact h
theorem hf_div {i : Int} {a : UInt64} (ha : FP.Core.DInt i a) (hi : i.natAbs ≤ 2 ^ 53) : FP.Core.Whole i (dblD (FP.Core.val64 (FP.ddiv a c2d))) := by
  have e : FP.Core.val64 (FP.ddiv a c2d) = FP.Core.quotient FP.Core.b64 (FP.Core.val64 a) (FP.Core.val64 c2d) := FP.Core.val64_ddiv _ _
  rw [e, v_c2]
  unfold FP.Core.DInt at ha
  generalize FP.Core.val64 a = x at ha ⊢
  cases x with
  | nan => exact ha.elim
  | inf => exact ha.elim
  | fin s c q =>
    have h1 : c * 2 ^ q.toNat = i.natAbs * 2 ^ (-q).toNat := FP.Core.whole_natAbs ha
    have hs : i ≠ 0 → s = decide (i < 0) := fun hi => FP.Core.whole_sign ha hi
    have e1 : FP.Core.quotient FP.Core.b64 (.fin s c q) (.fin false (2 ^ 52) (-51)) = FP.Core.roundRatio FP.Core.b64 (s != false) c (2 ^ 52) (q - (-51)) := by
      show (if (2 ^ 52 : Nat) = 0 then (if c = 0 then FP.Core.Datum.nan else .inf (s != false)) else FP.Core.roundRatio FP.Core.b64 (s != false) c (2 ^ 52) (q - (-51))) = _
      rw [if_neg (by decide)]
    rw [e1, show (s != false) = s by cases s <;> rfl]
    rw [FP.Core.roundRatio_congr (A' := i.natAbs) (B' := 2) (e' := 0) (by decide) (by decide) ?_]
    · exact hf_can hs hi
    · by_cases hq : 0 ≤ q
      · rw [show (q - (-51) - 0).toNat = q.toNat + 51 by omega, show (0 - (q - (-51))).toNat = 0 by omega, Nat.pow_add]
        rw [show (-q).toNat = 0 by omega, Nat.pow_zero, Nat.mul_one] at h1
        rw [← h1, Nat.pow_zero, Nat.mul_one]
        generalize 2 ^ q.toNat = k
        rw [show (2 : Nat) ^ 52 = 2 * 2 ^ 51 by decide]
        generalize (2 : Nat) ^ 51 = z
        ac_rfl
      · rw [show q.toNat = 0 by omega, Nat.pow_zero, Nat.mul_one] at h1
        rw [h1]
        by_cases hq2 : -51 ≤ q
        · rw [show (0 - (q - (-51))).toNat = 0 by omega, Nat.pow_zero, Nat.mul_one]
          have e3 : (2 : Nat) ^ 52 = 2 * (2 ^ (-q).toNat * 2 ^ (q - (-51) - 0).toNat) := by
            rw [← Nat.pow_add, show (-q).toNat + (q - (-51) - 0).toNat = 51 by omega]
          rw [e3]
          generalize 2 ^ (-q).toNat = k1
          generalize 2 ^ (q - (-51) - 0).toNat = k2
          ac_rfl
        · rw [show (q - (-51) - 0).toNat = 0 by omega, Nat.pow_zero, Nat.mul_one]
          rw [show (-q).toNat = 51 + (0 - (q - (-51))).toNat by omega, Nat.pow_add, show (2 : Nat) ^ 52 = 2 * 2 ^ 51 by decide]
          generalize 2 ^ (0 - (q - (-51))).toNat = k1
          generalize (2 : Nat) ^ 51 = z
          ac_rfl
/-- the half of a whole number -/
def hD (c : Int32) : UInt64 := FP.ddiv (FP.i2d c) c2d
theorem i32_abs (c : Int32) : c.toInt.natAbs ≤ 2 ^ 53 := by
  have h1 := c.toInt_lt
  have h2 := c.le_toInt
  omega
theorem hD_w (c : Int32) : FP.Core.Whole c.toInt (dblD (FP.Core.val64 (hD c))) := hf_div (FP.Core.i2d_int c) (i32_abs c)
theorem hf_nan {i : Int} {a : UInt64} (h : FP.Core.Whole i (dblD (FP.Core.val64 a))) : FP.Core.val64 a ≠ .nan := fun z => by
  rw [z] at h
  exact h
theorem hD_nn (c : Int32) : vf_n64 (hD c) := (vf_core _).mpr ((FP.Core.notNaN_iff _).mpr (hf_nan (hD_w c)))
theorem hD_0 : hD 0 = FP.dconst0 := by decide +kernel
theorem hD_of {a : UInt64} {c : Int32} (h : FP.Core.Whole c.toInt (dblD (FP.Core.val64 a))) (h0 : c.toInt ≠ 0) : a = hD c := FP.Core.val64_inj (hf_nan h) (hf_unique h0 h (hD_w c) (FP.Core.val64_fits _) (FP.Core.val64_fits _))
theorem hD_t (b w : Int32) : FP.Core.Whole (2 * b.toInt + w.toInt) (dblD (FP.Core.val64 (FP.dadd (FP.i2d b) (FP.dmul c05 (FP.i2d w))))) := by
  have e : FP.Core.val64 (FP.dadd (FP.i2d b) (FP.dmul c05 (FP.i2d w))) = FP.Core.round FP.Core.b64 (FP.Core.exactSum (FP.Core.val64 (FP.i2d b)) (FP.Core.val64 (FP.dmul c05 (FP.i2d w)))) := FP.Core.val64_dadd _ _
  rw [e]
  refine hf_keep (hf_sum (hf_of (FP.Core.i2d_int b)) (hf_half (FP.Core.i2d_int w) (i32_abs w))) ?_
  have h1 := b.toInt_lt
  have h2 := b.le_toInt
  have h3 := w.toInt_lt
  have h4 := w.le_toInt
  omega
theorem i32_0 {c : Int32} (h : c.toInt = 0) : c = 0 := Int32.toInt_inj.mp (h.trans (by decide))
/-- thickness: black and a half of white -/
theorem hD_thick {b w c : Int32} (hb : 0 ≤ b.toInt) (hw : 0 ≤ w.toInt) (hc : c.toInt = 2 * b.toInt + w.toInt) : FP.dadd (FP.i2d b) (FP.dmul c05 (FP.i2d w)) = hD c := by
  have h := hD_t b w
  rw [← hc] at h
  by_cases h0 : c.toInt = 0
  · have eb := i32_0 (c := b) (by omega)
    have ew := i32_0 (c := w) (by omega)
    have ec := i32_0 h0
    subst eb ew ec
    decide +kernel
  · exact hD_of h h0
/-- what is left of a known thickness when ice melts -/
theorem hD_sub (a b w : Int32) (hr : (a.toInt - (2 * b.toInt + w.toInt)).natAbs ≤ 2 ^ 53) : FP.Core.Whole (a.toInt - (2 * b.toInt + w.toInt)) (dblD (FP.Core.val64 (FP.dsub (hD a) (FP.dadd (FP.i2d b) (FP.dmul c05 (FP.i2d w)))))) := by
  have e : FP.Core.val64 (FP.dsub (hD a) (FP.dadd (FP.i2d b) (FP.dmul c05 (FP.i2d w)))) = FP.Core.round FP.Core.b64 (FP.Core.exactSum (FP.Core.val64 (hD a)) (FP.Core.negate (FP.Core.val64 (FP.dadd (FP.i2d b) (FP.dmul c05 (FP.i2d w)))))) := FP.Core.val64_dsub _ _
  rw [e]
  have h := hf_sum (hD_w a) (hf_neg (hD_t b w))
  rw [← Int.sub_eq_add_neg] at h
  exact hf_keep h hr
theorem v_0 : FP.Core.Whole 0 (dblD (FP.Core.val64 FP.dconst0)) := by
  rw [← hD_0]
  exact hD_w 0
theorem hD_less {a b w : Int32} (hr : (a.toInt - (2 * b.toInt + w.toInt)).natAbs ≤ 2 ^ 53) : (0 ≤ Op.cmpValue (FP.dcmp (FP.dsub (hD a) (FP.dadd (FP.i2d b) (FP.dmul c05 (FP.i2d w)))) FP.dconst0) CmpOp.g) ↔ 2 * b.toInt + w.toInt ≤ a.toInt := by
  have h : FP.dcmp (FP.dsub (hD a) (FP.dadd (FP.i2d b) (FP.dmul c05 (FP.i2d w)))) FP.dconst0 = some (compare (a.toInt - (2 * b.toInt + w.toInt)) 0) := hf_order (hD_sub a b w hr) v_0
  rw [h]
  rcases Int.lt_trichotomy (a.toInt - (2 * b.toInt + w.toInt)) 0 with c | c | c
  · rw [show compare (a.toInt - (2 * b.toInt + w.toInt)) 0 = .lt by simp only [compare, compareOfLessAndEq]; rw [if_pos c]]
    exact ⟨fun z => absurd z (by decide), fun z => by omega⟩
  · rw [c]
    exact ⟨fun _ => by omega, fun _ => by decide⟩
  · rw [show compare (a.toInt - (2 * b.toInt + w.toInt)) 0 = .gt by simp only [compare, compareOfLessAndEq]; rw [if_neg (by omega), if_neg (by omega)]]
    exact ⟨fun _ => by omega, fun _ => by decide⟩
theorem hD_left {a b w c : Int32} (hb : 0 ≤ b.toInt) (hw : 0 ≤ w.toInt) (hc : c.toInt = a.toInt - (2 * b.toInt + w.toInt)) (h0 : 0 ≤ c.toInt) : FP.dsub (hD a) (FP.dadd (FP.i2d b) (FP.dmul c05 (FP.i2d w))) = hD c := by
  have hr : (a.toInt - (2 * b.toInt + w.toInt)).natAbs ≤ 2 ^ 53 := by
    rw [← hc]
    exact i32_abs c
  have h := hD_sub a b w hr
  rw [← hc] at h
  by_cases h1 : c.toInt = 0
  · have ec := i32_0 h1
    subst ec
    have h2 := hD_t b w
    have e2 : FP.dadd (FP.i2d b) (FP.dmul c05 (FP.i2d w)) = hD a ∨ (a.toInt = 0) := by
      by_cases ha : a.toInt = 0
      · exact Or.inr ha
      · refine Or.inl (hD_of ?_ ha)
        rw [show a.toInt = 2 * b.toInt + w.toInt by omega]
        exact h2
    rcases e2 with e2 | e2
    · rw [e2, hD_0]
      obtain ⟨s, c, q, hv⟩ : ∃ s c q, FP.Core.val64 (hD a) = .fin s c q := by
        have h3 := hD_w a
        generalize FP.Core.val64 (hD a) = x at h3 ⊢
        cases x with
        | nan => exact h3.elim
        | inf => exact h3.elim
        | fin s c q => exact ⟨s, c, q, rfl⟩
      exact FP.Core.dsub_self hv
    · have ea := i32_0 e2
      have ez : (0 : Int32).toInt = 0 := by decide
      rw [ez] at hc
      have eb := i32_0 (c := b) (by omega)
      have ew := i32_0 (c := w) (by omega)
      subst ea eb ew
      decide +kernel
  · exact hD_of h h1
/-- twice the half -/
theorem hD_two (c : Int32) : FP.d2i (FP.dmul c2d (hD c)) = c := FP.Core.d2i_int (hf_two (hD_w c) (i32_abs c))
theorem hD_cmp (c : Int32) (o : CmpOp) : Op.cmpValue (FP.dcmp (hD c) (hD c)) o = 0 := by
  have h : FP.dcmp (hD c) (hD c) = some .eq := FP.Core.dcmp_self (hf_nan (hD_w c))
  rw [h]
  cases o <;> rfl
