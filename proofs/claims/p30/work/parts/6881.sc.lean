/-! ===== the end of a day, a minute, minutes ===== -/
theorem min_sw {a b : Int32} : (if a < b then a else b) = (if b ≤ a then b else a) := by
  by_cases c : a < b
  · rw [if_pos c, if_neg (fun z => i32_lt_le c z)]
  · rw [if_neg c, if_pos (i32_nlt_le c)]
theorem thaw_eq {Z : XZ} {S : XS} {M : MS} {t i : Nat} (h : RXN Z S M t) (hi : i < Z.N 0) : RXN Z (X_thaw Z S i (-(M.1 1 0))) (M_thaws M (nI i)) t := by
  have hp := h.np
  have hci : (nI i).toNatClampNeg = i := nI_clamp (by omega)
  have L : 6 * (-(M.1 1 0)) = (-6) * M.1 1 0 := by grind
  have e6 : S.1 1 i 6 = M.1 10 i := (h.p hi).f 6 (by omega) (by omega)
  obtain ⟨x1, ex1⟩ : ∃ x1 : Int32, x1 = if M.1 10 i ≤ (-6) * M.1 1 0 then M.1 10 i else (-6) * M.1 1 0 := ⟨_, rfl⟩
  obtain ⟨S2, eS2⟩ : ∃ S2 : XS, S2 = xset S 1 i 6 (M.1 10 i - x1) := ⟨_, rfl⟩
  obtain ⟨M2, eM2⟩ : ∃ M2 : MS, M2 = mset M 10 i (M.1 10 i - x1) := ⟨_, rfl⟩
  have h2 : RXN Z S2 M2 t := by rw [eS2, eM2]; exact RXN_f (f := 6) h hi (by omega) (by omega)
  have e4 : S2.1 1 i 4 = M2.1 8 i := (h2.p hi).f 4 (by omega) (by omega)
  obtain ⟨x3, ex3⟩ : ∃ x3 : Int32, x3 = if M2.1 8 i ≤ (-6) * M.1 1 0 - x1 then M2.1 8 i else (-6) * M.1 1 0 - x1 := ⟨_, rfl⟩
  obtain ⟨S4, eS4⟩ : ∃ S4 : XS, S4 = xset S2 1 i 4 (M2.1 8 i - x3) := ⟨_, rfl⟩
  obtain ⟨M4, eM4⟩ : ∃ M4 : MS, M4 = mset M2 8 i (M2.1 8 i - x3) := ⟨_, rfl⟩
  have h4 : RXN Z S4 M4 t := by rw [eS4, eM4]; exact RXN_f (f := 4) h2 hi (by omega) (by omega)
  have e3 : S4.1 1 i 3 = M4.1 7 i := (h4.p hi).f 3 (by omega) (by omega)
  obtain ⟨x5, ex5⟩ : ∃ x5 : Int32, x5 = if M4.1 7 i ≤ (-6) * M.1 1 0 - x1 - x3 then M4.1 7 i else (-6) * M.1 1 0 - x1 - x3 := ⟨_, rfl⟩
  obtain ⟨S6, eS6⟩ : ∃ S6 : XS, S6 = xset S4 1 i 3 (M4.1 7 i - x5) := ⟨_, rfl⟩
  obtain ⟨M6, eM6⟩ : ∃ M6 : MS, M6 = mset M4 7 i (M4.1 7 i - x5) := ⟨_, rfl⟩
  have h6 : RXN Z S6 M6 t := by rw [eS6, eM6]; exact RXN_f (f := 3) h4 hi (by omega) (by omega)
  have ek : S6.2.1 i = M6.2 i := (h6.p hi).k
  have last : ∀ v : NN, RXN Z (if (xkset S6 i v).1 1 i 7 = 1 then xset (xkset S6 i v) 1 i 7 2 else xkset S6 i v) (mset (mkset M6 i v) 11 i (if (mkset M6 i v).1 11 i = 1 then 2 else (mkset M6 i v).1 11 i)) t := fun v => by
    have h7 := RXN_k (v := v) h6 hi
    have e7 : (xkset S6 i v).1 1 i 7 = (mkset M6 i v).1 11 i := (h7.p hi).f 7 (by omega) (by omega)
    rw [e7]
    by_cases c : (mkset M6 i v).1 11 i = 1
    · rw [if_pos c, if_pos c]
      exact RXN_f (f := 7) h7 hi (by omega) (by omega)
    · rw [if_neg c, if_neg c, mset_id rfl]
      exact h7
  unfold X_thaw M_thaws
  simp only [hci, L, e6, min_sw, ← ex1, ← eS2, ← eM2, e4, ← ex3, ← eS4, ← eM4, e3, ← ex5, ← eS6, ← eM6, ek]
  by_cases c : 0 ≤ Op.cmpValue (FP.dcmp (FP.dsub ((M6.2 i).1) (FP.dadd (FP.i2d x5) (FP.dmul (4602678819172646912 : UInt64) (FP.i2d x3)))) FP.dconst0) CmpOp.g
  · rw [if_pos c, if_pos c]
    exact last _
  · rw [if_neg c, if_neg c]
    exact last _
theorem grow_eq {Z : XZ} {S : XS} {M : MS} {p : Nat} {ud : Int32} (e0 : S.1 1 p 0 = M.1 4 p) (e3 : S.1 1 p 3 = M.1 7 p) (e4 : S.1 1 p 4 = M.1 8 p) (e6 : S.1 1 p 6 = M.1 10 p) {n c : Nat} (hn : 0 < n) (hn2 : n < 2 ^ 31) (hcov : M.1 7 p + M.1 8 p + 4 * M.1 10 p + 50 = nI n) (hc : c ≤ 60) (hud : ud = nI c) : X_growth Z S p ud = (if 0 ≤ ((400 * ud) / ((((M.1 7 p) + (M.1 8 p)) + (4 * (M.1 10 p))) + 50)) - (if M.1 4 p = 1 then 2 else 0) then ((400 * ud) / ((((M.1 7 p) + (M.1 8 p)) + (4 * (M.1 10 p))) + 50)) - (if M.1 4 p = 1 then 2 else 0) else 0) := by
  unfold X_growth
  dsimp only
  rw [e0, e3, e4, e6, hcov, if_pos (show (0 : Int32) < nI n from nI_lt (a := 0) hn hn2), hud, show (400 : Int32) = nI 400 from rfl, nI_mul, nI_div (by omega) hn2]
  by_cases k : M.1 4 p = 1
  · rw [if_pos k, if_pos k, wear_eq]
  · rw [if_neg k, if_neg k, Int32.sub_zero, if_pos]
    exact nI_pos' (Nat.lt_of_le_of_lt (Nat.div_le_self _ _) (by omega))
theorem freeze_eq {Z : XZ} {S : XS} {M : MS} {t i : Nat} (h : RXN Z S M t) (hI : MI M (Z.N 0) (Z.N 1) t) (hi : i < Z.N 0) (hc : 0 < M.1 1 0) (hw : M_isWater M (nI i)) : RXN Z (X_freeze Z S i (M.1 1 0)) (M_freezes M (nI i)) t := by
  have hp := h.np
  have hci : (nI i).toNatClampNeg = i := nI_clamp (by omega)
  unfold M_isWater at hw
  rw [hci] at hw
  have e5 : S.1 1 i 5 = M.1 9 i := (h.p hi).f 5 (by omega) (by omega)
  have e0 : S.1 1 i 0 = M.1 4 i := (h.p hi).1
  obtain ⟨b, wh, wa, sn, f1, f2, f3, f4, g1, g2, g3, g4⟩ := fz_data hI hi
  obtain ⟨r1, r2⟩ := hI.2.2.2.2.2.1
  rw [Int32.lt_iff_toInt_lt, Int32.toInt_zero] at hc
  obtain ⟨cc, ecc, -, hcc⟩ := rng_nI (x := M.1 1 0) (a := 0) (b := 60) ⟨by omega, r2⟩
  obtain ⟨x1, ex1⟩ : ∃ x1 : Int32, x1 = if M.1 9 i ≤ 2 * M.1 1 0 then M.1 9 i else 2 * M.1 1 0 := ⟨_, rfl⟩
  have hx1 : x1 = nI (min wa (2 * cc)) := by
    rw [ex1, f3, ecc, nI_two, min_nI (by omega) (by omega)]
  obtain ⟨S3, eS3⟩ : ∃ S3 : XS, S3 = xset S 1 i 5 (M.1 9 i - x1) := ⟨_, rfl⟩
  obtain ⟨M3, eM3⟩ : ∃ M3 : MS, M3 = mset M 9 i (M.1 9 i - x1) := ⟨_, rfl⟩
  have h3 : RXN Z S3 M3 t := by rw [eS3, eM3]; exact RXN_f (f := 5) h hi (by omega) (by omega)
  have e4 : S3.1 1 i 4 = M3.1 8 i := (h3.p hi).f 4 (by omega) (by omega)
  obtain ⟨S4, eS4⟩ : ∃ S4 : XS, S4 = xset S3 1 i 4 (M3.1 8 i + x1) := ⟨_, rfl⟩
  obtain ⟨M4, eM4⟩ : ∃ M4 : MS, M4 = mset M3 8 i (M3.1 8 i + x1) := ⟨_, rfl⟩
  have h4 : RXN Z S4 M4 t := by rw [eS4, eM4]; exact RXN_f (f := 4) h3 hi (by omega) (by omega)
  have p4 := h4.p hi
  have k5 : S4.1 1 i 5 = M4.1 9 i := p4.f 5 (by omega) (by omega)
  have k3 : S4.1 1 i 3 = M4.1 7 i := p4.f 3 (by omega) (by omega)
  have m41 : M4.1 1 0 = M.1 1 0 := by rw [eM4, eM3, mset_k (by decide), mset_k (by decide)]
  have m48 : M4.1 8 i = nI (wh + min wa (2 * cc)) := by
    rw [eM4, mset_s, eM3, mset_k (by decide), f2, hx1, nI_add]
  have m47 : M4.1 7 i = nI b := by rw [eM4, eM3, mset_k (by decide), mset_k (by decide), f1]
  have m410 : M4.1 10 i = nI sn := by rw [eM4, eM3, mset_k (by decide), mset_k (by decide), f4]
  have cov : M4.1 7 i + M4.1 8 i + 4 * M4.1 10 i + 50 = nI (b + (wh + min wa (2 * cc)) + 4 * sn + 50) := by
    rw [m47, m48, m410, show (4 : Int32) = nI 4 from rfl, show (50 : Int32) = nI 50 from rfl, nI_mul, nI_add, nI_add, nI_add]
  have hg := grow_eq (Z := Z) (S := S4) (M := M4) (p := i) (ud := M.1 1 0) p4.1 k3 (p4.f 4 (by omega) (by omega)) (p4.f 6 (by omega) (by omega)) (n := b + (wh + min wa (2 * cc)) + 4 * sn + 50) (by omega) (by omega) cov hcc ecc
  obtain ⟨gr, egr⟩ : ∃ gr : Int32, gr = X_growth Z S4 i (M.1 1 0) := ⟨_, rfl⟩
  rw [← egr] at hg
  obtain ⟨S5, eS5⟩ : ∃ S5 : XS, S5 = if M4.1 9 i = 0 then xset S4 1 i 3 (M4.1 7 i + gr) else S4 := ⟨_, rfl⟩
  obtain ⟨M5, eM5⟩ : ∃ M5 : MS, M5 = if M4.1 9 i = 0 then mset M4 7 i (M4.1 7 i + gr) else M4 := ⟨_, rfl⟩
  have h5 : RXN Z S5 M5 t := by
    rw [eS5, eM5]
    by_cases c : M4.1 9 i = 0
    · rw [if_pos c, if_pos c]
      exact RXN_f (f := 3) h4 hi (by omega) (by omega)
    · rw [if_neg c, if_neg c]
      exact h4
  have k7 : S5.1 1 i 7 = M5.1 11 i := (h5.p hi).f 7 (by omega) (by omega)
  have m51 : M5.1 1 0 = M.1 1 0 := by
    rw [eM5, ← m41]
    split
    · rw [mset_k (by decide)]
    · rfl
  unfold X_freeze M_freezes
  simp only [hci, e0, if_neg hw, e5, min_sw, ← ex1, ← eS3, ← eM3, e4, ← eS4, ← eM4, k5, k3, m41, ← egr, ← hg, ← eS5, ← eM5, k7, m51]
  by_cases c : M.1 1 0 < 40
  · rw [if_pos c, if_pos c]
    by_cases d : M.1 1 0 < 10
    · rw [if_pos d, if_pos d]
      exact h5
    · rw [if_neg d, if_neg d]
      exact RXN_f (f := 7) h5 hi (by omega) (by omega)
  · rw [if_neg c, if_neg c]
    exact RXN_f (f := 7) h5 hi (by omega) (by omega)
theorem end_s {Z : XZ} {S : XS} {M : MS} {t n : Nat} (h : RXN Z S M t) (hI : MI M (Z.N 0) (Z.N 1) t) (hn : n < Z.N 0) : RXN Z (X_endDay_s S Z n) (M_ends_s M n) t := by
  have hp := h.np
  have hcn : (nI n).toNatClampNeg = n := nI_clamp (by omega)
  have e7 : S.1 0 0 7 = M.1 1 0 := h.2.2.2.2.1
  unfold X_endDay_s M_ends_s
  dsimp only
  rw [e7]
  by_cases c : M.1 1 0 ≤ 0
  · rw [if_pos c, if_pos c]
    by_cases d : 0 ≤ M.1 1 0
    · rw [if_pos d, if_pos d]; exact h
    · rw [if_neg d, if_neg d]; exact thaw_eq h hn
  · rw [if_neg c, if_neg c]
    have hc : 0 < M.1 1 0 := i32_nle' c
    by_cases w : M_isWater M (nI n)
    · rw [if_pos w]
      exact freeze_eq h hI hn hc w
    · rw [if_neg w, if_pos (by rw [Int32.lt_iff_toInt_lt] at hc; rw [Int32.le_iff_toInt_le]; omega)]
      unfold M_isWater at w
      rw [hcn] at w
      unfold X_freeze
      rw [if_pos (by rw [(h.p hn).1]; exact Decidable.not_not.mp w)]
      exact h
theorem end_f {Z : XZ} {S : XS} {M : MS} {t : Nat} (h : RXN Z S M t) (hI : MI M (Z.N 0) (Z.N 1) t) : ∀ n, n ≤ Z.N 0 → RXN Z (X_endDay_f S Z n) (M_ends_f M n) t
  | 0, _ => h
  | n + 1, hn => end_s (end_f h hI n (by omega)) (MI_ends_f hI (by omega)) (by omega)
theorem end_eq {Z : XZ} {S : XS} {M : MS} {t : Nat} (h : RXN Z S M t) (hI : MI M (Z.N 0) (Z.N 1) t) : RXN Z (X_endDay Z S) (M_ends M) t := by
  unfold X_endDay M_ends
  dsimp only
  rw [hI.1.1, nI_clamp (by have := h.np; omega)]
  exact end_f h hI _ (Nat.le_refl _)
