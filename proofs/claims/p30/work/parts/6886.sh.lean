/-! ===== speed, minutes, kilos, bill ===== -/
theorem two_N {Z : XZ} {S : XS} {M : MS} {x y : Int32} (h : MNn M (Z.N 0) (Z.N 1)) : (X_pieceNumbered Z S y = none ∧ X_vehicleNumbered Z S x = none ∧ M_isVehicle M x ∧ M_isPiece M y ∧ ∃ j q, j < Z.N 1 ∧ q < Z.N 0 ∧ x = nI j ∧ y = nI q) ∨ ((X_pieceNumbered Z S y = some EIOB ∨ (X_pieceNumbered Z S y = none ∧ X_vehicleNumbered Z S x = some EIOB)) ∧ (¬ M_isVehicle M x ∨ (M_isVehicle M x ∧ ¬ M_isPiece M y))) := by
  rcases pN_iff (S := S) (x := y) h with ⟨c1, c2, q, hq, e⟩ | ⟨c1, c2⟩
  · rcases vN_iff (S := S) (x := x) h with ⟨d1, d2, j, hj, f⟩ | ⟨d1, d2⟩
    · exact Or.inl ⟨c1, d1, d2, c2, j, q, hj, hq, f, e⟩
    · exact Or.inr ⟨Or.inr ⟨c1, d1⟩, Or.inl d2⟩
  · refine Or.inr ⟨Or.inl c1, ?_⟩
    by_cases d : M_isVehicle M x
    · exact Or.inr ⟨d, c2⟩
    · exact Or.inl d
theorem st_speed {Z : XZ} {S : XS} {M : MS} {t : Nat} (h : RXA Z S M t) (ht : t < 512) (uv up : Int32) : SA (X_speed Z S uv up).1 (X_speed Z S uv up).2 (M_speed M uv up).1 (M_speed M uv up).2 (cdL EIOB "") (RXA Z S (M_speed M uv up).2 (t + 1)) (RXA Z S (M_speed M uv up).2 (t + 1)) := by
  unfold X_speed M_speed
  rcases two_N (Z := Z) (S := S) (M := M) (x := uv) (y := up) h.2.1.1 with ⟨c1, c2, c3, c4, j, q, hj, hq, rfl, rfl⟩ | ⟨c1, c2⟩
  · rw [if_pos c1, if_pos c2, if_pos c3, if_pos c4]
    have h1 := RXA_29 (j := 0) (v := 0) h
    have hnp := h.1.np
    have hnv := h.1.nv
    have hcq : (nI q).toNatClampNeg = q := nI_clamp (by omega)
    have hcj : (nI j).toNatClampNeg = j := nI_clamp (by omega)
    have ep := h1.1.p hq
    refine SA_ok h ht ?_
    rw [hcq, hcj]
    exact spd_eq (Z := Z) (by omega) (by omega) ep.1 ep.2.2.1 (ep.f 9 (by omega) (by omega)) (h1.1.v hj).2.2.1 (MI_spd' h1.2.1 hj hq)
  · have hM : (if M_isVehicle M uv then if M_isPiece M up then (M_speedOn (mset M 29 0 0) uv up, mset M 29 0 0) else (0, mset M 29 0 1) else (0, mset M 29 0 1)) = ((0 : Int32), mset M 29 0 1) := by
      rcases c2 with d | ⟨d1, d2⟩
      · rw [if_neg d]
      · rw [if_pos d1, if_neg d2]
    dsimp only at hM ⊢
    rw [hM]
    rcases c1 with d | ⟨d1, d2⟩
    · rw [if_neg (nn_none d)]
      exact SA_bad h ht d cdL_1
    · rw [if_pos d1, if_neg (nn_none d2)]
      exact SA_bad h ht d2 cdL_1
theorem st_minutes {Z : XZ} {S : XS} {M : MS} {t : Nat} (h : RXA Z S M t) (ht : t < 512) (uv up : Int32) : SA (X_minutes Z S uv up).1 (X_minutes Z S uv up).2 (M_minutes M uv up).1 (M_minutes M uv up).2 (cdL EIOB "") (RXA Z S (M_minutes M uv up).2 (t + 1)) (RXA Z S (M_minutes M uv up).2 (t + 1)) := by
  unfold X_minutes M_minutes
  rcases two_N (Z := Z) (S := S) (M := M) (x := uv) (y := up) h.2.1.1 with ⟨c1, c2, c3, c4, j, q, hj, hq, rfl, rfl⟩ | ⟨c1, c2⟩
  · rw [if_pos c1, if_pos c2, if_pos c3, if_pos c4]
    have h1 := RXA_29 (j := 0) (v := 0) h
    have hnp := h.1.np
    have hnv := h.1.nv
    have hcq : (nI q).toNatClampNeg = q := nI_clamp (by omega)
    have hcj : (nI j).toNatClampNeg = j := nI_clamp (by omega)
    have ep := h1.1.p hq
    refine SA_ok h ht ?_
    rw [hcq, hcj]
    exact min_eq (Z := Z) (by omega) (by omega) ep.1 ep.2.1 ep.2.2.1 (ep.f 9 (by omega) (by omega)) (h1.1.v hj).2.2.1 (MI_spd' h1.2.1 hj hq)
  · have hM : (if M_isVehicle M uv then if M_isPiece M up then (M_minutesOn (mset M 29 0 0) uv up, mset M 29 0 0) else (0, mset M 29 0 1) else (0, mset M 29 0 1)) = ((0 : Int32), mset M 29 0 1) := by
      rcases c2 with d | ⟨d1, d2⟩
      · rw [if_neg d]
      · rw [if_pos d1, if_neg d2]
    dsimp only at hM ⊢
    rw [hM]
    rcases c1 with d | ⟨d1, d2⟩
    · rw [if_neg (nn_none d)]
      exact SA_bad h ht d cdL_1
    · rw [if_pos d1, if_neg (nn_none d2)]
      exact SA_bad h ht d2 cdL_1
/-- minute by minute: as many as the division says -/
theorem mA_eq {m s : Nat} (hs : 0 < s) (hs2 : s ≤ 1800) (hm : m ≤ 20000) : ∀ k c : Nat, c ≤ (m + s - 1) / s → (m + s - 1) / s ≤ c + k → X_mA (nI m) (nI s) k (nI (s * c)) (nI c) = nI ((m + s - 1) / s)
  | 0, c, h1, h2 => by
    have e : c = (m + s - 1) / s := by omega
    show nI c = _
    rw [← e]
  | k + 1, c, h1, h2 => by
    have hd : (m + s - 1) / s ≤ 20000 := by
      have : (m + s - 1) / s < 20001 := (Nat.div_lt_iff_lt_mul hs).mpr (by
        have : 20001 * s = 20000 * s + s := by omega
        have : 20000 ≤ 20000 * s := Nat.le_mul_of_pos_right _ hs
        omega)
      omega
    have hsc : s * c ≤ 1800 * 20000 := Nat.mul_le_mul hs2 (by omega)
    have key : m ≤ s * c ↔ (m + s - 1) / s ≤ c := by
      rw [show ((m + s - 1) / s ≤ c) ↔ ((m + s - 1) / s < c + 1) from Nat.lt_succ_iff.symm, Nat.div_lt_iff_lt_mul hs, Nat.succ_mul, Nat.mul_comm c s]
      omega
    show (if nI m ≤ nI (s * c) then nI c else X_mA (nI m) (nI s) k (nI (s * c) + nI s) (nI c + 1)) = _
    by_cases q : m ≤ s * c
    · rw [if_pos ((nI_leI (by omega) (by omega)).mpr q)]
      have := key.mp q
      rw [show c = (m + s - 1) / s by omega]
    · rw [if_neg (fun z => q ((nI_leI (by omega) (by omega)).mp z)), nI_add, nI_1, show s * c + s = s * (c + 1) from (Nat.mul_succ s c).symm]
      have : ¬ (m + s - 1) / s ≤ c := fun z => q (key.mpr z)
      exact mA_eq hs hs2 hm k (c + 1) (by omega) (by omega)
theorem st_minutesAnew {Z : XZ} {S : XS} {M : MS} {t : Nat} (h : RXA Z S M t) (ht : t < 512) (uv up : Int32) : SA (X_minutesAnew Z S uv up).1 (X_minutesAnew Z S uv up).2 (M_minutesAnew M uv up).1 (M_minutesAnew M uv up).2 (cdL EIOB "") (RXA Z S (M_minutesAnew M uv up).2 (t + 1)) (RXA Z S (M_minutesAnew M uv up).2 (t + 1)) := by
  unfold X_minutesAnew M_minutesAnew M_minutes
  rcases two_N (Z := Z) (S := S) (M := M) (x := uv) (y := up) h.2.1.1 with ⟨c1, c2, c3, c4, j, q, hj, hq, rfl, rfl⟩ | ⟨c1, c2⟩
  · rw [if_pos c1, if_pos c2, if_pos c3, if_pos c4]
    have h1 := RXA_29 (j := 0) (v := 0) h
    have hnp := h.1.np
    have hnv := h.1.nv
    have hcq : (nI q).toNatClampNeg = q := nI_clamp (by omega)
    have hcj : (nI j).toNatClampNeg = j := nI_clamp (by omega)
    have ep := h1.1.p hq
    refine SA_ok h ht ?_
    dsimp only
    rw [hcq, hcj, spd_eq (Z := Z) (by omega) (by omega) ep.1 ep.2.2.1 (ep.f 9 (by omega) (by omega)) (h1.1.v hj).2.2.1 (MI_spd' h1.2.1 hj hq), ep.2.1]
    unfold M_minutesOn
    rw [hcq]
    obtain ⟨sp, esp, l, u⟩ := rng_nI (a := 1) (b := 300) (M_speedOn_rng (MI_spd' h1.2.1 hj hq))
    obtain ⟨mt, emt, ml, mu⟩ := rng_nI (a := 1) (b := 20000) (h1.2.1.2.2.2.1 q hq).2.2
    rw [esp, emt, show (6 : Int32) = nI 6 from rfl, nI_mul, nI_add, show (1 : Int32) = nI 1 from rfl, nI_sub' (by omega), nI_div (by omega) (by omega)]
    have := mA_eq (m := mt) (s := 6 * sp) (by omega) (by omega) mu 20000 0 (Nat.zero_le _) (by
      have : (mt + 6 * sp - 1) / (6 * sp) < 20001 := (Nat.div_lt_iff_lt_mul (by omega)).mpr (by
        have : 20001 * (6 * sp) = 20000 * (6 * sp) + 6 * sp := by omega
        have : 20000 ≤ 20000 * (6 * sp) := Nat.le_mul_of_pos_right _ (by omega)
        omega)
      omega)
    rw [Nat.mul_zero] at this
    exact this
  · have hM : (if M_isVehicle M uv then if M_isPiece M up then (M_minutesOn (mset M 29 0 0) uv up, mset M 29 0 0) else (0, mset M 29 0 1) else (0, mset M 29 0 1)) = ((0 : Int32), mset M 29 0 1) := by
      rcases c2 with d | ⟨d1, d2⟩
      · rw [if_neg d]
      · rw [if_pos d1, if_neg d2]
    dsimp only at hM ⊢
    rw [hM]
    rcases c1 with d | ⟨d1, d2⟩
    · rw [if_neg (nn_none d)]
      exact SA_bad h ht d cdL_1
    · rw [if_pos d1, if_neg (nn_none d2)]
      exact SA_bad h ht d2 cdL_1
theorem car_eq2 {Z : XZ} {S : XS} {M : MS} {g : Nat} {ub : Int32} (hg : g < 3) : ∀ n, n ≤ 16 → (∀ i, i < n → RV S M i) → X_kilosInVehicles_f Z S (nI g) ub n = M_carried_f M (nI g) ub n
  | 0, _, _ => rfl
  | n + 1, hn, h => by
    have ih := car_eq2 (Z := Z) (S := S) (M := M) (ub := ub) hg n (by omega) (fun i hi => h i (by omega))
    show X_kilosInVehicles_s Z S (nI g) ub n (X_kilosInVehicles_f Z S (nI g) ub n) = M_carried_s M (nI g) ub n (M_carried_f M (nI g) ub n)
    rw [ih]
    have ev := h n (by omega)
    unfold X_kilosInVehicles_s M_carried_s
    dsimp only
    rw [nI_clamp (by omega), ev.2.2.2.1]
    rcases ev.2.2.2.2.2.2.2 with ⟨a, b, c⟩ | ⟨a, b, c, -⟩
    · rw [if_pos a, b, c]
      have z : ∀ x : Int32, x = x + (if (-1 : Int32) = nI g then (if bI (M.1 20 n = 4) = ub then (0 : Int32) else 0) else 0) := fun x => by
        have : (if (-1 : Int32) = nI g then (if bI (M.1 20 n = 4) = ub then (0 : Int32) else 0) else 0) = 0 := by
          split
          · split <;> rfl
          · rfl
        rw [this, Int32.add_zero]
      exact z _
    · rw [if_neg a, b, c]
      by_cases k : M.1 25 n = nI g
      · rw [if_pos k, if_pos k]
        by_cases l : bI (M.1 20 n = 4) = ub
        · rw [if_pos l, if_pos l]
        · rw [if_neg l, if_neg l, Int32.add_zero]
      · rw [if_neg k, if_neg k, Int32.add_zero]
theorem miss_eq {Z : XZ} {S : XS} {M : MS} {t g : Nat} (h : RG Z S M t g) (ht : t ≤ 512) (hg : g < 3) : X_kilosMissing Z S (nI g) = M_missing M (nI g) := by
  obtain ⟨-, e4, e5, -, ⟨b1, b2⟩, ⟨o1, o2⟩⟩ := h
  unfold X_kilosMissing M_missing
  dsimp only
  rw [nI_clamp (by omega), if_neg (nI_pos (by omega)), if_pos (show nI g < 3 from nI_lt hg (by decide)), e4, e5]
  have hs : (M.1 28 g - M.1 27 g).toInt = (M.1 28 g).toInt - (M.1 27 g).toInt := by
    rw [Int32.toInt_sub, Int.bmod_eq_of_le (by omega) (by omega)]
  by_cases c : M.1 28 g ≤ M.1 27 g
  · rw [if_pos c, if_neg]
    rw [Int32.le_iff_toInt_le] at c
    rw [Int32.lt_iff_toInt_lt, hs, Int32.toInt_zero]
    omega
  · rw [if_neg c, if_pos]
    rw [Int32.le_iff_toInt_le] at c
    rw [Int32.lt_iff_toInt_lt, hs, Int32.toInt_zero]
    omega
theorem st_kilos {Z : XZ} {S : XS} {M : MS} {t : Nat} (h : RXA Z S M t) (ht : t < 512) (ug uk : Int32) : SA (X_kilos Z S ug uk).1 (X_kilos Z S ug uk).2 (M_kilos M ug uk).1 (M_kilos M ug uk).2 (cdL EIOB EIAE) (RXA Z S (M_kilos M ug uk).2 (t + 1)) (RXA Z S (M_kilos M ug uk).2 (t + 1)) := by
  unfold X_kilos M_kilos
  rcases gN_iff (Z := Z) (S := S) (M := M) (x := ug) with ⟨c1, c2, q, hq, rfl⟩ | ⟨c1, c2⟩
  · rw [if_pos c1, if_pos c2]
    rcases nR_iff (Z := Z) (S := S) (M := M) (x := uk) (a := 0) (b := 4) with ⟨d1, d2⟩ | ⟨d1, d2⟩
    · rw [if_pos d1, if_pos d2]
      have h1 := RXA_29 (j := 0) (v := 0) h
      have hcq : (nI q).toNatClampNeg = q := nI_clamp (by omega)
      have e := h1.1.g hq
      obtain ⟨n, rfl, -, hn⟩ := rng_nI (x := uk) (a := 0) (b := 4) (rg_of d2)
      have hcar : ∀ ub, X_kilosInVehicles Z S (nI q) ub = M_carried (mset M 29 0 0) (nI q) ub := fun ub => by
        unfold X_kilosInVehicles M_carried
        dsimp only
        rw [h1.2.1.1.2.2.1, nI_clamp (by have := h.1.nv; omega)]
        exact car_eq2 hq _ h1.1.nv (fun i hi => h1.1.v hi)
      dsimp only
      rw [hcq]
      rcases (show n = 0 ∨ n = 1 ∨ n = 2 ∨ n = 3 ∨ n = 4 by omega) with rfl | rfl | rfl | rfl | rfl
      · rw [if_pos (show nI 0 = 0 by decide)]; exact SA_ok h ht e.1
      · rw [if_neg (show ¬ nI 1 = 0 by decide), if_pos (show nI 1 = 1 by decide)]; exact SA_ok h ht e.2.1
      · rw [if_neg (show ¬ nI 2 = 0 by decide), if_neg (show ¬ nI 2 = 1 by decide), if_pos (show nI 2 = 2 by decide), if_neg (show ¬ nI 2 = 4 by decide)]; exact SA_ok h ht (hcar 0)
      · rw [if_neg (show ¬ nI 3 = 0 by decide), if_neg (show ¬ nI 3 = 1 by decide), if_neg (show ¬ nI 3 = 2 by decide), if_pos (show nI 3 = 3 by decide), if_neg (show ¬ nI 3 = 4 by decide)]; exact SA_ok h ht (hcar 1)
      · rw [if_neg (show ¬ nI 4 = 0 by decide), if_neg (show ¬ nI 4 = 1 by decide), if_neg (show ¬ nI 4 = 2 by decide), if_neg (show ¬ nI 4 = 3 by decide), if_pos (show nI 4 = 4 by decide)]; exact SA_ok h ht (miss_eq e (by omega) hq)
    · rw [if_neg (nn_none d1), if_neg d2]
      exact SA_bad h ht d1 (cdL_2 (by decide))
  · rw [if_neg (nn_none c1), if_neg c2]
    exact SA_bad h ht c1 cdL_1
theorem anew_eq {Z : XZ} {S : XS} {g : Int32} : ∀ n, X_kilosAnew_f Z S g n = sumLd S g n
  | 0 => rfl
  | n + 1 => by
    show X_kilosAnew_s Z S g n (X_kilosAnew_f Z S g n) = sumLd S g n + lOn S g n
    rw [anew_eq n]
    unfold X_kilosAnew_s lOn
    dsimp only
    by_cases a : S.1 3 n 0 = g
    · rw [if_pos a]
      by_cases b : S.1 3 n 2 = 0
      · rw [if_pos b, if_pos ⟨a, b⟩]
      · rw [if_neg b, if_neg (fun z => b z.2), Int32.add_zero]
    · rw [if_neg a, if_neg (fun z => a z.1), Int32.add_zero]
theorem st_kilosAnew {Z : XZ} {S : XS} {M : MS} {t : Nat} (h : RXA Z S M t) (ht : t < 512) (ug : Int32) : SA (X_kilosAnew Z S ug).1 (X_kilosAnew Z S ug).2 (M_kilosAnew M ug).1 (M_kilosAnew M ug).2 (cdL EIOB "") (RXA Z S (M_kilosAnew M ug).2 (t + 1)) (RXA Z S (M_kilosAnew M ug).2 (t + 1)) := by
  unfold X_kilosAnew M_kilosAnew
  rcases gN_iff (Z := Z) (S := S) (M := M) (x := ug) with ⟨c1, c2, q, hq, rfl⟩ | ⟨c1, c2⟩
  · rw [if_pos c1, if_pos c2]
    have h1 := RXA_29 (j := 0) (v := 0) h
    have hcq : (nI q).toNatClampNeg = q := nI_clamp (by omega)
    refine SA_ok h ht ?_
    rw [anew_eq, hcq]
    exact (h1.1.g hq).2.2.2.1
  · rw [if_neg (nn_none c1), if_neg c2]
    exact SA_bad h ht c1 cdL_1
theorem st_bill {Z : XZ} {S : XS} {M : MS} {t : Nat} (h : RXA Z S M t) (ht : t < 512) : X_bill Z S = (M_bill M).1 ∧ RXA Z S (M_bill M).2 (t + 1) := by
  have h1 := RXA_29 (j := 0) (v := 0) h
  refine ⟨?_, RXA_t h1 ht⟩
  have key : ∀ n, n ≤ 3 → X_bill_f Z S n = M_bill_f (mset M 29 0 0) n := fun n => by
    induction n with
    | zero => intro _; rfl
    | succ n ih =>
      intro hn
      show X_bill_s Z S n (X_bill_f Z S n) = M_bill_s (mset M 29 0 0) n (M_bill_f (mset M 29 0 0) n)
      rw [ih (by omega)]
      unfold X_bill_s M_bill_s
      dsimp only
      rw [nI_clamp (by omega), miss_eq (h1.1.g (show n < 3 by omega)) (by omega) (by omega), (h1.1.g (show n < 3 by omega)).2.1]
  exact key 3 (Nat.le_refl _)
