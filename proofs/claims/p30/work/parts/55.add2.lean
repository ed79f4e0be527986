/-! ===== ArraysSupport.newLength, Arrays.copyOf, ArrayList.grow, add ===== -/
theorem cU_nl (G : GX) (w : WD) (P : Nat) (hP : P < 769) (h0 : ¬ P = 0) : FC G yJ8_newLength_cabcc cJ8_newLength_cabcc 4 (some .int) { frames := 1, cells := 0, slots := 0, locals := 24 } [.int (nI P), .int 1, .int (nI (P / 2))] w (pv (.int (nI (gc P))) w) := by
  refine FC.go (lv := [(0, .int (nI P)), (1, .int 1), (2, .int (nI (P / 2)))]) (by decide) (Nat.le_of_ble_eq_true rfl) rfl (fun p e s m args below meth c A H locs ls Q hx hb hr hts hown hml hlocks hnm hK hE hI hA hl hQ => ?_)
  have hown : s.vm.findClass RJ8 = some m.cls := hown
  refine lv_iload_n hx hb dJ8_newLength_cabcc_0 rfl (lv_at hl 0 rfl) ?_
  refine lv_iload_n hx hb dJ8_newLength_cabcc_1 rfl (lv_at hl 1 rfl) ?_
  refine lv_iload_n hx hb dJ8_newLength_cabcc_2 rfl (lv_at hl 2 rfl) ?_
  refine va_mmax (rest := [.int (nI P)]) hx hb (by rw [hml]; exact hl.1.symm) hown (hts _ q307) (hts _ q93) (hts _ q12) (hts _ q94) (Nat.le_of_ble_eq_true rfl) (Nat.le_of_ble_eq_true rfl) (Nat.zero_le _) (Nat.zero_le _) dJ8_newLength_cabcc_3 ?_
  refine lv_iadd hx hb dJ8_newLength_cabcc_6 ?_
  rw [gc_max P hP h0]
  refine lv_istore_n (lv' := [(3, .int (nI (gc P))), (0, .int (nI P)), (1, .int 1), (2, .int (nI (P / 2)))]) hx hb dJ8_newLength_cabcc_7 rfl hl (by decide) rfl (fun ls hl => ?_)
  refine lv_iconst (v := 0) hx hb dJ8_newLength_cabcc_8 (by decide) ?_
  refine lv_iload_n hx hb dJ8_newLength_cabcc_9 rfl (lv_at hl 0 rfl) ?_
  refine lv_icmp_ge (tgt := 21) hx hb dJ8_newLength_cabcc_10 (by decide) (fun h => absurd h (gc_pos P hP).1) (fun _ => ?_)
  refine lv_iload_n hx hb dJ8_newLength_cabcc_13 rfl (lv_at hl 0 rfl) ?_
  refine lv_ldc (v := 2147483639) hx hb hown (hts _ q308) dJ8_newLength_cabcc_14 ?_
  refine lv_icmp_gt (tgt := 21) hx hb dJ8_newLength_cabcc_16 (by decide) (fun h => absurd h (gc_pos P hP).2) (fun _ => ?_)
  refine lv_iload_n hx hb dJ8_newLength_cabcc_19 rfl (lv_at hl 0 rfl) ?_
  exact rt_i hx hb hr hlocks hI hA hQ ⟨rfl, rfl⟩ (Nat.zero_le _) (Nat.zero_le _) dJ8_newLength_cabcc_20
/-- the copy of an array of references, longer, at the place (9, 0) -/
def poC (T : Nat → ClassId) (w : WD) (n' : Nat) (f : Nat → Option Nat) : Option Value → WD → Prop := fun v w' => ∃ h : Nat, v = some (.ref h) ∧ w' = fU w 9 0 (h, aQ T n' f)
theorem cA_copy3 (G : GX) (w : WD) (k j a n n' : Nat) (f : Nat → Option Nat) (he : w k j = some (a, aQ G.2.2.2 n f)) (h9 : w 9 0 = none) (hn : n ≤ n') (hn' : n' ≤ 768) (hf : ∀ i, n ≤ i → f i = none) (hel : ∀ i y, f i = some y → ∃ k i ci fs, w k i = some (y, .inr (ci, fs)) ∧ (ci = 1 ∨ ci = 2 ∨ ci = 3)) : FC G yJ7_copyOf_6403c cJ7_copyOf_6403c 4 (some (.array (.object "java/lang/Object"))) { frames := 1, cells := 1, slots := 768, locals := 40 } [.ref a, .int (nI n'), .ref (G.2.2.2 5)] w (poC G.2.2.2 w n' f) := by
  refine FC.go (lv := [(0, .ref a), (1, .int (nI n')), (2, .ref (G.2.2.2 5))]) (by decide) (Nat.le_of_ble_eq_true rfl) rfl (fun p e s m args below meth c A H locs ls Q hx hb hr hts hown hml hlocks hnm hK hE hI hA hl hQ => ?_)
  have hown : s.vm.findClass RJ7 = some m.cls := hown
  refine lv_aload_n hx hb dJ7_copyOf_6403c_0 rfl (lv_at hl 2 rfl) ?_
  refine va_ldcM (C := "[Ljava/lang/Object;") hx hb hown (hts _ q330) hE.2.2.2.2.2.2.2.1 dJ7_copyOf_6403c_1 ?_
  refine lv_acmp_ne (rx := some (G.2.2.2 5)) (ry := some (G.2.2.2 5)) (tgt := 13) hx hb dJ7_copyOf_6403c_3 (by decide) (fun h => absurd rfl h) (fun _ => ?_)
  refine lv_iload_n hx hb dJ7_copyOf_6403c_6 rfl (lv_at hl 1 rfl) ?_
  refine fx_newq (k := 9) (i := 0) (N := n') hx hb hts hown hK hE hI q332 (nI_pos (by omega)) (nI_clamp (by omega)) (by omega) (Nat.le_of_ble_eq_true rfl) (by show 0 + n' ≤ 768; omega) h9 dJ7_copyOf_6403c_7 (fun H1 hI z1 => ?_)
  refine lv_goto (tgt := 24) hx hb dJ7_copyOf_6403c_10 (by decide) ?_
  refine lv_astore_n (lv' := [(3, .ref H.size), (0, .ref a), (1, .int (nI n')), (2, .ref (G.2.2.2 5))]) hx hb dJ7_copyOf_6403c_24 rfl hl (by decide) rfl (fun ls hl => ?_)
  have hkj : ¬ (k = 9 ∧ j = 0) := fun z => by
    obtain ⟨rfl, rfl⟩ := z
    rw [h9] at he
    cases he
  have he1 : fU w 9 0 (H.size, aQ G.2.2.2 n' (fun _ => none)) k j = some (a, aQ G.2.2.2 n f) := by rw [fU_ne hkj]; exact he
  refine lv_aload_n hx hb dJ7_copyOf_6403c_25 rfl (lv_at hl 1 rfl) ?_
  refine lv_iconst (v := 0) hx hb dJ7_copyOf_6403c_26 (by decide) ?_
  refine lv_aload_n hx hb dJ7_copyOf_6403c_27 rfl (lv_at hl 0 rfl) ?_
  refine lv_iconst (v := 0) hx hb dJ7_copyOf_6403c_28 (by decide) ?_
  refine lv_aload_n hx hb dJ7_copyOf_6403c_29 rfl (lv_at hl 1 rfl) ?_
  refine fx_alenq hx hb hK hI he1 dJ7_copyOf_6403c_30 ?_
  refine lv_iload_n hx hb dJ7_copyOf_6403c_31 rfl (lv_at hl 2 rfl) ?_
  refine va_mmin (rest := [.int 0, .ref H.size, .int 0, .ref a]) hx hb (by rw [hml]; exact hl.1.symm) hown (hts _ q333) (hts _ q334) (hts _ q12) (hts _ q335) (Nat.le_of_ble_eq_true rfl) (Nat.le_of_ble_eq_true rfl) (Nat.le_of_ble_eq_true rfl) (by show 0 + n' ≤ 768; omega) dJ7_copyOf_6403c_32 ?_
  have emin : (if nI n' < nI n then nI n' else nI n) = nI n := if_neg (fun h => by rw [Int32.lt_iff_toInt_lt, nI_toInt (by omega), nI_toInt (by omega)] at h; omega)
  rw [emin]
  have en : (nI n).toNatClampNeg = n := nI_clamp (by omega)
  have e0 : (0 : Int32).toNatClampNeg = 0 := by decide
  refine fx_copyq (rest := []) hx hb (by rw [hml]; exact hl.1.symm) hts hown q336 hK hI he1 fU_same (by decide) (by decide) (nI_pos (by omega)) (by rw [en, e0]; omega) (by rw [en, e0]; omega) (fun i hi y hy => ?_) (Nat.le_of_ble_eq_true rfl) (Nat.le_of_ble_eq_true rfl) dJ7_copyOf_6403c_35 (fun H locs hI => ?_)
  · rw [e0, Nat.zero_add] at hy
    obtain ⟨k2, i2, ci, fs, hw2, hci⟩ := hel i y hy
    refine fx_any hE hK hI (k := k2) (i := i2) (ci := ci) (fs := fs) ?_ hci
    rw [fU_ne (fun z => by obtain ⟨rfl, rfl⟩ := z; rw [h9] at hw2; cases hw2)]
    exact hw2
  · refine lv_aload_n hx hb dJ7_copyOf_6403c_38 rfl (lv_at hl 0 rfl) ?_
    have ef : va_cpy f (fun _ => none) (0 : Int32).toNatClampNeg (0 : Int32).toNatClampNeg (nI n).toNatClampNeg = f := by
      rw [e0, en]
      funext q
      unfold va_cpy
      by_cases hq : q < n
      · rw [if_pos (by omega)]
        congr 1
        omega
      · rw [if_neg (by omega)]
        exact (hf q (by omega)).symm
    rw [ef] at hI
    have e2 : fU (fU w 9 0 (H1.size - 1, aQ G.2.2.2 n' (fun _ => none))) 9 0 (H1.size - 1, aQ G.2.2.2 n' f) = fU w 9 0 (H1.size - 1, aQ G.2.2.2 n' f) := by
      funext k' i'
      by_cases q : k' = 9 ∧ i' = 0
      · obtain ⟨rfl, rfl⟩ := q
        rw [fU_same, fU_same]
      · rw [fU_ne q, fU_ne q, fU_ne q]
    rw [z1, Nat.add_sub_cancel] at e2
    rw [e2] at hI
    exact rt_a hx hb hr (Or.inr ⟨_, rfl⟩) hlocks (Or.inr ⟨_, rfl⟩) hI hA hQ ⟨_, rfl, rfl⟩ (Nat.le_of_ble_eq_true rfl) (by show 0 + n' ≤ 768; omega) dJ7_copyOf_6403c_39
