/-! ===== numbers: remainders, and squares beside a double ===== -/
theorem nI_rem {a b : Nat} (ha : a < 2 ^ 31) (hb : b < 2 ^ 31) : nI a - nI a / nI b * nI b = nI (a % b) := by
  rw [nI_div ha hb, nI_mul, nI_sub' (Nat.div_mul_le_self a b)]
  have h := Nat.div_add_mod' a b
  have e : a - a / b * b = a % b := by omega
  rw [e]
theorem r2 {a : Nat} (ha : a < 2 ^ 31) : nI a - nI a / 2 * 2 = nI (a % 2) := nI_rem (b := 2) ha (by decide)
theorem r4 {a : Nat} (ha : a < 2 ^ 31) : nI a - nI a / 4 * 4 = nI (a % 4) := nI_rem (b := 4) ha (by decide)
theorem r8 {a : Nat} (ha : a < 2 ^ 31) : nI a - nI a / 8 * 8 = nI (a % 8) := nI_rem (b := 8) ha (by decide)
theorem r16 {a : Nat} (ha : a < 2 ^ 31) : nI a - nI a / 16 * 16 = nI (a % 16) := nI_rem (b := 16) ha (by decide)
theorem r256 {a : Nat} (ha : a < 2 ^ 31) : nI a - nI a / 256 * 256 = nI (a % 256) := nI_rem (b := 256) ha (by decide)
theorem d4 {a : Nat} (ha : a < 2 ^ 31) : nI a / 4 = nI (a / 4) := nI_div (b := 4) ha (by decide)
theorem d8 {a : Nat} (ha : a < 2 ^ 31) : nI a / 8 = nI (a / 8) := nI_div (b := 8) ha (by decide)
theorem d16 {a : Nat} (ha : a < 2 ^ 31) : nI a / 16 = nI (a / 16) := nI_div (b := 16) ha (by decide)
theorem d64 {a : Nat} (ha : a < 2 ^ 31) : nI a / 64 = nI (a / 64) := nI_div (b := 64) ha (by decide)
theorem d128 {a : Nat} (ha : a < 2 ^ 31) : nI a / 128 = nI (a / 128) := nI_div (b := 128) ha (by decide)
theorem d256 {a : Nat} (ha : a < 2 ^ 31) : nI a / 256 = nI (a / 256) := nI_div (b := 256) ha (by decide)
theorem cmp_fin {low : UInt64} (hf : FP.Core.DFin low) : ∃ K L : Int, 0 < K ∧ ∀ (a : Int) (x : UInt64), FP.Core.DInt a x → FP.dcmp x low = some (compare (a * K) L) := by
  obtain ⟨t, d, r, hl⟩ := hf
  refine ⟨((2 ^ (-r).toNat : Nat) : Int), FP.Core.signed t (d * 2 ^ r.toNat), by have := Nat.two_pow_pos (-r).toNat; omega, fun a x hx => ?_⟩
  show FP.Core.order (FP.Core.val64 x) (FP.Core.val64 low) = _
  rw [hl]
  unfold FP.Core.DInt at hx
  generalize FP.Core.val64 x = X at hx ⊢
  cases X with
  | nan => exact hx.elim
  | inf => exact hx.elim
  | fin s c q =>
    have h1 := FP.Core.whole_units hx (e := min q r) (by omega)
    show some (compare (FP.Core.signed s (FP.Core.inUnits c q (min q r))) (FP.Core.signed t (FP.Core.inUnits d r (min q r)))) = _
    have p1 : (0 : Int) < ((2 ^ (min q r).toNat : Nat) : Int) := by have := Nat.two_pow_pos (min q r).toNat; omega
    have hk : (-(min q r)).toNat = (-r).toNat + ((-(min q r)).toNat - (-r).toNat) := by omega
    have p2 : (0 : Int) < ((2 ^ ((-(min q r)).toNat - (-r).toNat) : Nat) : Int) := by have := Nat.two_pow_pos ((-(min q r)).toNat - (-r).toNat); omega
    have e9 := FP.Core.compare_mul_pos (a * ((2 ^ (-r).toNat : Nat) : Int)) (FP.Core.signed t (d * 2 ^ r.toNat)) _ p2
    rw [← FP.Core.compare_mul_pos _ _ _ p1, h1, ← e9]
    congr 2
    · rw [Int.mul_assoc, ← Int.natCast_mul, ← Nat.pow_add, ← hk]
    · rw [← FP.Core.signed_mul, ← FP.Core.signed_mul]
      congr 1
      unfold FP.Core.inUnits
      rw [Nat.mul_assoc, Nat.mul_assoc, ← Nat.pow_add, ← Nat.pow_add]
      congr 2
      omega
theorem cmp_le {a b : Int} {o : CmpOp} : Op.cmpValue (some (compare a b)) o ≤ 0 ↔ a ≤ b := by
  rcases Int.lt_trichotomy a b with c | c | c
  · rw [show compare a b = .lt by simp only [compare, compareOfLessAndEq]; rw [if_pos c]]
    exact ⟨fun _ => by omega, fun _ => by cases o <;> decide⟩
  · rw [show compare a b = .eq by simp only [compare, compareOfLessAndEq]; rw [if_neg (by omega), if_pos c]]
    exact ⟨fun _ => by omega, fun _ => by cases o <;> decide⟩
  · rw [show compare a b = .gt by simp only [compare, compareOfLessAndEq]; rw [if_neg (by omega), if_neg (by omega)]]
    exact ⟨fun z => absurd z (by cases o <;> decide), fun z => by omega⟩
theorem cmp_gt {a b : Int} {o : CmpOp} : 0 < Op.cmpValue (some (compare a b)) o ↔ b < a := by
  rcases Int.lt_trichotomy a b with c | c | c
  · rw [show compare a b = .lt by simp only [compare, compareOfLessAndEq]; rw [if_pos c]]
    exact ⟨fun z => absurd z (by cases o <;> decide), fun z => by omega⟩
  · rw [show compare a b = .eq by simp only [compare, compareOfLessAndEq]; rw [if_neg (by omega), if_pos c]]
    exact ⟨fun z => absurd z (by cases o <;> decide), fun z => by omega⟩
  · rw [show compare a b = .gt by simp only [compare, compareOfLessAndEq]; rw [if_neg (by omega), if_neg (by omega)]]
    exact ⟨fun _ => by omega, fun _ => by cases o <;> decide⟩
theorem sq_int {n : Nat} (h : n ≤ 1000) : FP.Core.DInt ((n * n : Nat) : Int) (FP.i2d (nI n * nI n)) := by
  have hn : n * n ≤ 1000 * 1000 := Nat.mul_le_mul h h
  have h1 := FP.Core.i2d_int (nI n * nI n)
  rw [nI_mul, nI_toInt (by omega)] at h1
  rw [nI_mul]
  exact h1
/-- the greatest whole number, up from x, whose square is not above low -/
def L_lst (low : UInt64) : Nat → Int32 → Int32
  | 0, x => x
  | n + 1, x => if 0 < Op.cmpValue (FP.dcmp (FP.i2d ((x + 1) * (x + 1))) low) CmpOp.g then x else L_lst low n (x + 1)
theorem i32_inc {x : Int32} (h0 : -1 ≤ x.toInt) (h1 : x.toInt < 1000) : (x + 1).toInt = x.toInt + 1 := by
  rw [Int32.toInt_add, show (1 : Int32).toInt = 1 by decide, Int.bmod_eq_of_le (by omega) (by omega)]
theorem w_fin (d : Int32) : FP.Core.DFin (FP.dmul c784 (FP.i2d d)) := mag63.fin (FP.Core.dmul_mag (a := c784) (b := FP.i2d d) (Ka := 1030) (Kb := 1056) (by decide) (mag_i2d d) (by decide) (by decide)) (by decide)
/-- where the way up has to end -/
theorem lst_stop {d x i : Int32} (hx : rng x 1 300) (h : ¬ Op.cmpValue (FP.dcmp (FP.i2d (x * x)) (FP.dmul c784 (FP.i2d d))) CmpOp.l ≤ 0) (hi : i.toInt = 299) : 0 < Op.cmpValue (FP.dcmp (FP.i2d ((i + 1) * (i + 1))) (FP.dmul c784 (FP.i2d d))) CmpOp.g := by
  obtain ⟨K, L, hK, hc⟩ := cmp_fin (w_fin d)
  obtain ⟨n, rfl, h1, h2⟩ := rng_nI (a := 1) (b := 300) hx
  have hi1 : i + 1 = nI 300 := Int32.toInt_inj.mp (by rw [i32_inc (by omega) (by omega), hi]; decide)
  rw [hc _ _ (sq_int (by omega)), cmp_le] at h
  rw [hi1, hc _ _ (sq_int (by omega)), cmp_gt]
  have hm : ((n * n : Nat) : Int) * K ≤ ((300 * 300 : Nat) : Int) * K := Int.mul_le_mul_of_nonneg_right (by have := Nat.mul_le_mul h2 h2; omega) (by omega)
  omega
theorem sq_mono {K : Int} (hK : 0 < K) {a b : Nat} (h : a ≤ b) : ((a * a : Nat) : Int) * K ≤ ((b * b : Nat) : Int) * K := Int.mul_le_mul_of_nonneg_right (by have := Nat.mul_le_mul h h; omega) (by omega)
theorem lst_up {low : UInt64} {K L : Int} (hK : 0 < K) (hc : ∀ (a : Int) (x : UInt64), FP.Core.DInt a x → FP.dcmp x low = some (compare (a * K) L)) {s0 : Nat} (h0 : ((s0 * s0 : Nat) : Int) * K ≤ L) (h1 : L < (((s0 + 1) * (s0 + 1) : Nat) : Int) * K) (h3 : s0 ≤ 300) : ∀ n s : Nat, s ≤ s0 → s0 ≤ s + n → L_lst low n (nI s) = nI s0 := by
  intro n
  induction n with
  | zero =>
    intro s ha hb
    have e : s = s0 := by omega
    rw [e]
    rfl
  | succ n ih =>
    intro s ha hb
    show (ite _ _ _ : Int32) = _
    rw [nI_1, hc _ _ (sq_int (by omega))]
    by_cases c : s = s0
    · subst c
      rw [if_pos (cmp_gt.mpr h1)]
    · rw [if_neg (fun z => by
        have := cmp_gt.mp z
        have := sq_mono hK (show s + 1 ≤ s0 by omega)
        omega)]
      exact ih (s + 1) (by omega) (by omega)
theorem w_down {low : UInt64} {K L : Int} (hK : 0 < K) (hc : ∀ (a : Int) (x : UInt64), FP.Core.DInt a x → FP.dcmp x low = some (compare (a * K) L)) {s0 : Nat} (h0 : ((s0 * s0 : Nat) : Int) * K ≤ L) (h1 : L < (((s0 + 1) * (s0 + 1) : Nat) : Int) * K) (hs0 : 1 ≤ s0) : ∀ n s : Nat, s0 ≤ s → s ≤ s0 + n → s ≤ 300 → M_speedW low n (nI s) = nI s0 := by
  intro n
  induction n with
  | zero =>
    intro s ha hb _
    have e : s = s0 := by omega
    rw [e]
    rfl
  | succ n ih =>
    intro s ha hb hs
    show (ite _ _ _ : Int32) = _
    rw [hc _ _ (sq_int (by omega))]
    by_cases c : s = s0
    · subst c
      rw [if_pos (cmp_le.mpr h0)]
    · rw [if_neg (fun z => by
        have := cmp_le.mp z
        have := sq_mono hK (show s0 + 1 ≤ s by omega)
        omega)]
      have e : nI s + (-1) = nI (s - 1) := by
        apply Int32.toInt_inj.mp
        rw [i32_dec (by rw [nI_toInt (by omega)]; omega), nI_toInt (by omega), nI_toInt (by omega)]
        omega
      rw [e]
      exact ih (s - 1) (by omega) (by omega) (by omega)
/-- down from a speed that makes a wave, or up from 0: the same -/
theorem lst_eq {d x : Int32} (hd : rng d 1 999) (hx : rng x 1 300) (h : ¬ Op.cmpValue (FP.dcmp (FP.i2d (x * x)) (FP.dmul c784 (FP.i2d d))) CmpOp.l ≤ 0) : M_speedW (FP.dmul c784 (FP.i2d d)) 300 x = L_lst (FP.dmul c784 (FP.i2d d)) 299 0 := by
  obtain ⟨K, L, hK, hc⟩ := cmp_fin (w_fin d)
  obtain ⟨n, rfl, h1, h2⟩ := rng_nI (a := 1) (b := 300) hx
  obtain ⟨m, rfl, g1, g2⟩ := rng_nI (a := 1) (b := 999) hd
  have hw := wave_all m (by omega) g1
  have e1 : FP.i2d (1 : Int32) = FP.i2d (nI 1 * nI 1) := by decide +kernel
  rw [show (FP.i2d 1 : UInt64) = FP.i2d (nI 1 * nI 1) from e1, hc _ _ (sq_int (by omega)), cmp_le] at hw
  rw [hc _ _ (sq_int (by omega)), cmp_le] at h
  obtain ⟨s0, k1, k2, k3, k4⟩ : ∃ s0 : Nat, 1 ≤ s0 ∧ s0 < n ∧ ((s0 * s0 : Nat) : Int) * K ≤ L ∧ L < (((s0 + 1) * (s0 + 1) : Nat) : Int) * K := by
    clear hx h2
    induction n with
    | zero => omega
    | succ n ih =>
      by_cases c : ((n * n : Nat) : Int) * K ≤ L
      · by_cases cn : n = 0
        · subst cn
          exact absurd hw h
        · exact ⟨n, by omega, by omega, c, by omega⟩
      · by_cases cn : n = 0
        · subst cn
          exact absurd (Int.le_trans (sq_mono hK (show 0 ≤ 1 by omega)) hw) c
        · obtain ⟨s0, a1, a2, a3, a4⟩ := ih (by omega) c
          exact ⟨s0, a1, by omega, a3, a4⟩
  rw [w_down hK hc k3 k4 k1 300 n (by omega) (by omega) h2, show (0 : Int32) = nI 0 from rfl, lst_up hK hc k3 k4 (by omega) 299 0 (by omega) (by omega)]
