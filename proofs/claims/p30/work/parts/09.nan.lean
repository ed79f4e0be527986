/-! ===== no NaN: thickness, what is borne, waves ===== -/
abbrev c05 : UInt64 := 4602678819172646912
abbrev c075 : UInt64 := 4604930618986332160
abbrev c004 : UInt64 := 4585925428558828667
abbrev c784 : UInt64 := 4635217326480398746
abbrev c1176 : UInt64 := 4637975781252163174
def mag63 (a : UInt64) (K : Nat) : Prop := a.toNat % 2 ^ 63 < K * 2 ^ 52
theorem vf_iff (x : UInt64) : vf_n64 x ↔ x.toNat % 2 ^ 63 ≤ 9218868437227405312 := by
  unfold vf_n64
  rw [UInt64.le_iff_toNat_le, UInt64.toNat_and]
  have h1 : (0x7fffffffffffffff : UInt64).toNat = 2 ^ 63 - 1 := by decide
  have h2 : (0x7ff0000000000000 : UInt64).toNat = 9218868437227405312 := by decide
  rw [h1, h2, Nat.and_two_pow_sub_one_eq_mod]
theorem vf_core (x : UInt64) : vf_n64 x ↔ FP.Core.dIsNaN x = false := by
  rw [vf_iff, FP.Core.notNaN_iff, FP.Core.ne_nan]
theorem mag63.fin {a : UInt64} {K : Nat} (h : mag63 a K) (hK : K ≤ 2047) : FP.Core.DFin a := FP.Core.fin_of_lt h hK
theorem mag63.nn {a : UInt64} {K : Nat} (h : mag63 a K) (hK : K ≤ 2047) : vf_n64 a := (vf_core a).mpr (h.fin hK).notNaN
theorem mag_i2d (v : Int32) : mag63 (FP.i2d v) 1056 := FP.Core.i2d_mag v
theorem mag_c {c : UInt64} {K : Nat} (h : c.toNat % 2 ^ 63 < K * 2 ^ 52) : mag63 c K := h
theorem mag_mono {a : UInt64} {K L : Nat} (h : mag63 a K) (hKL : K ≤ L) : mag63 a L := by
  exact Nat.lt_of_lt_of_le h (Nat.mul_le_mul_right _ hKL)
theorem mag_half (v : Int32) : mag63 (FP.dmul c05 (FP.i2d v)) 1057 :=
  FP.Core.dmul_mag (a := c05) (b := FP.i2d v) (Ka := 1023) (Kb := 1056) (by decide) (mag_i2d v) (by decide) (by decide)
theorem mag_thick (a b : Int32) : mag63 (FP.dadd (FP.i2d a) (FP.dmul c05 (FP.i2d b))) 1059 :=
  FP.Core.dadd_mag (K := 1057) (mag_mono (mag_i2d a) (by decide)) (mag_half b) (by decide)
theorem nn_half (v : Int32) : vf_n64 (FP.dmul c05 (FP.i2d v)) := (mag_half v).nn (by decide)
theorem nn_thick (a b : Int32) : vf_n64 (FP.dadd (FP.i2d a) (FP.dmul c05 (FP.i2d b))) := (mag_thick a b).nn (by decide)
theorem nn_less {k : UInt64} (hk : vf_n64 k) (a b : Int32) : vf_n64 (FP.dsub k (FP.dadd (FP.i2d a) (FP.dmul c05 (FP.i2d b)))) :=
  (vf_core _).mpr (FP.Core.dsub_out ((vf_core _).mp hk) ((mag_thick a b).fin (by decide)))
theorem nn_0 : vf_n64 FP.dconst0 := by unfold vf_n64; decide
theorem nz_of {c : UInt64} (h : c.toNat % 2 ^ 63 ≠ 0) : ¬ FP.Core.DZero c := fun z => h ((FP.Core.zero_bits2 c).mp z)
theorem fin_of {c : UInt64} (h : c.toNat % 2 ^ 63 < 9218868437227405312) : FP.Core.DFin c := (FP.Core.fin_bits c).mpr h
theorem dmul_comm (a b : UInt64) : FP.dmul a b = FP.dmul b a := FP.Core.dmul_comm a b
theorem nn_b1 {t : UInt64} (ht : vf_n64 t) : vf_n64 (FP.dmul c004 t) := by
  rw [dmul_comm]
  exact (vf_core _).mpr (FP.Core.dmul_out' ((vf_core _).mp ht) (fin_of (by decide)) (nz_of (by decide)))
theorem nn_w (c : UInt64) (hc : c.toNat % 2 ^ 63 < 1030 * 2 ^ 52) (v : Int32) : vf_n64 (FP.dmul c (FP.i2d v)) :=
  mag63.nn (FP.Core.dmul_mag (a := c) (b := FP.i2d v) (Ka := 1030) (Kb := 1056) hc (mag_i2d v) (by decide) (by decide)) (by decide)
theorem nn_w1 (v : Int32) : vf_n64 (FP.dmul c784 (FP.i2d v)) := nn_w _ (by decide) v
theorem nn_w2 (v : Int32) : vf_n64 (FP.dmul c1176 (FP.i2d v)) := nn_w _ (by decide) v
theorem nn_b2 {t : UInt64} (ht : vf_n64 t) : vf_n64 (FP.dmul (FP.dmul c004 t) t) := by
  rw [vf_core]
  have h0 := (FP.Core.notNaN_iff _).mp ((vf_core _).mp (nn_b1 ht))
  have h9 := (FP.Core.notNaN_iff _).mp ((vf_core _).mp ht)
  cases h : FP.Core.dIsNaN (FP.dmul (FP.dmul c004 t) t) with
  | false => rfl
  | true =>
    exfalso
    rcases (FP.Core.dmul_nan_iff _ _).mp h with h1 | h1 | ⟨s, h1, h2⟩ | ⟨s, h1, h2⟩
    · exact h0 h1
    · exact h9 h1
    · exact FP.Core.DZero.ne_inf (FP.Core.dmul_zero (fin_of (c := c004) (by decide)) h2) s h1
    · have e : FP.Core.val64 (FP.dmul c004 t) = FP.Core.round FP.Core.b64 (FP.Core.exactProduct (FP.Core.val64 c004) (FP.Core.val64 t)) := FP.Core.val64_dmul _ _
      obtain ⟨s', c', q', hc⟩ := fin_of (c := c004) (by decide)
      rw [h2, hc] at e
      simp only [FP.Core.exactProduct] at e
      split at e
      · exact h0 e
      · exact FP.Core.DZero.ne_inf h1 _ e
theorem nn_b3 {x sv : UInt64} (hx : vf_n64 x) (hs : sv = FP.dconst1 ∨ sv = c075 ∨ sv = c05) : vf_n64 (FP.dmul x sv) := by
  rw [vf_core] at hx ⊢
  rcases hs with rfl | rfl | rfl <;> exact FP.Core.dmul_out' hx (fin_of (by decide)) (nz_of (by decide))
theorem nn_sv {a b : Prop} [Decidable a] [Decidable b] {sv : UInt64} (h : sv = if a then FP.dconst1 else (if b then c075 else c05)) : sv = FP.dconst1 ∨ sv = c075 ∨ sv = c05 := by
  rw [h]
  split
  · exact Or.inl rfl
  · split
    · exact Or.inr (Or.inl rfl)
    · exact Or.inr (Or.inr rfl)
