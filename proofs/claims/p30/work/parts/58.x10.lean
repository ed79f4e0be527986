theorem zG_A {Z : XZ} {li h k i : Nat} (q : k ≠ 7) : (zG Z li h).A k i = Z.A k i := by
  unfold zG
  split
  · exact zP_A (fun z => q z.1)
  · rfl
theorem zG_N {Z : XZ} {li h : Nat} : (zG Z li h).N = Z.N := by
  unfold zG
  split <;> rfl
theorem zG_O {Z : XZ} {li h : Nat} : (zG Z li h).O = Z.O := by
  unfold zG
  split <;> rfl
theorem zG_P {Z : XZ} {li h i : Nat} (hi : i < 3) (hN : Z.N li ≤ 511) (hP : ∀ i, i < 3 → Z.N i ≤ Z.P i ∧ Z.P i ≤ 768) : (zN (zG Z li h) li).N i ≤ (zN (zG Z li h) li).P i ∧ (zN (zG Z li h) li).P i ≤ 768 := by
  have hp := hP i hi
  show (if i = li then (zG Z li h).N li + 1 else (zG Z li h).N i) ≤ (zG Z li h).P i ∧ (zG Z li h).P i ≤ 768
  rw [zG_N]
  by_cases hf : Z.N li = Z.P li
  · have e : zG Z li h = zP Z li h := by unfold zG; rw [if_pos hf]
    rw [e]
    by_cases q : i = li
    · subst q
      rw [if_pos rfl, zP_Ps]
      have := gc_le (P := Z.P i) (by omega)
      have := gc_gt (P := Z.P i)
      omega
    · rw [if_neg q, zP_P q]
      exact hp
  · have e : zG Z li h = Z := by unfold zG; rw [if_neg hf]
    rw [e]
    by_cases q : i = li
    · subst q
      rw [if_pos rfl]
      omega
    · rw [if_neg q]
      exact hp
/-- an object made and entered -/
def zA (Z : XZ) (li h1 h2 : Nat) : XZ := zN (zG (zO Z (li + 1) h1) li h2) li
theorem zA_A {Z : XZ} {li h1 h2 k i : Nat} (q : k ≠ 7) (q2 : k ≠ li + 1) : (zA Z li h1 h2).A k i = Z.A k i := (zG_A q).trans (zO_A (fun z => q2 z.1))
theorem zA_N {Z : XZ} {li h1 h2 i : Nat} : (zA Z li h1 h2).N i = if i = li then Z.N li + 1 else Z.N i := by
  show (if i = li then (zG _ li h2).N li + 1 else (zG _ li h2).N i) = _
  rw [zG_N]
  rfl
theorem zA_O {Z : XZ} {li h1 h2 k : Nat} : (zA Z li h1 h2).O k = if k = li + 1 then Z.O (li + 1) + 1 else Z.O k := by
  show (zG _ li h2).O k = _
  rw [zG_O]
  rfl
theorem WZ_add {Z : XZ} {li h1 h2 : Nat} (h : WZ Z) (hli : li < 3) (h0 : li = 0 → Z.N 0 ≤ 9) (h1' : li = 1 → Z.N 1 ≤ 15) (h2' : li = 2 → Z.N 2 ≤ 511) : WZ (zA Z li h1 h2) := by
  obtain ⟨a, b, c, d, e, f, g⟩ := h
  have hP := fun (i : Nat) (hi : i < 3) => zG_P (Z := zO Z (li + 1) h1) (li := li) (h := h2) hi (by show Z.N li ≤ 511; match li, hli with | 0, _ => omega | 1, _ => omega | 2, _ => exact h2' rfl) (fun i hi => g i hi)
  refine ⟨?_, ?_, ?_, ?_, ?_, ?_, hP⟩
  · rw [zA_N, zA_O]; match li, hli with | 0, _ => simp; omega | 1, _ => simp; omega | 2, _ => simp; omega
  · rw [zA_N, zA_O]; match li, hli with | 0, _ => simp; omega | 1, _ => simp; omega | 2, _ => simp; omega
  · rw [zA_N, zA_O]; match li, hli with | 0, _ => simp; omega | 1, _ => simp; omega | 2, _ => simp; omega
  · rw [zA_N]; match li, hli with | 0, _ => have := h0 rfl; simp; omega | 1, _ => simp; omega | 2, _ => simp; omega
  · rw [zA_N]; match li, hli with | 0, _ => simp; omega | 1, _ => have := h1' rfl; simp; omega | 2, _ => simp; omega
  · rw [zA_N]; match li, hli with | 0, _ => simp; omega | 1, _ => simp; omega | 2, _ => have := h2' rfl; simp; omega
theorem WZ.L {Z : XZ} (h : WZ Z) : ∀ i j, i < 3 → j < Z.N i → j < Z.O (i + 1) := fun i j hi hj => by
  obtain ⟨a, b, c, -⟩ := h
  match i, hi with
  | 0, _ => rw [← a]; exact hj
  | 1, _ => rw [← b]; exact hj
  | 2, _ => rw [← c]; exact hj
theorem blX1 : ∀ j, j < 16 → defaultValue (tyX1 j) = vp_V (xF1 (fun _ => 0) FP.dconst0) j := by
  intro j hj
  match j, hj with
  | 0, _ => rfl
  | 1, _ => rfl
  | 2, _ => rfl
  | 3, _ => rfl
  | 4, _ => rfl
  | 5, _ => rfl
  | 6, _ => rfl
  | 7, _ => rfl
  | 8, _ => rfl
  | 9, _ => rfl
  | 10, _ => rfl
  | 11, _ => rfl
  | 12, _ => rfl
  | 13, _ => rfl
  | 14, _ => rfl
  | 15, _ => rfl
  | n + 16, h => exact absurd h (by omega)
theorem blX2 (Z : XZ) : ∀ j, j < 8 → defaultValue (tyX2 j) = vp_V (xF2 Z (fun _ => 0) 0) j := by
  intro j hj
  match j, hj with
  | 0, _ => rfl
  | 1, _ => rfl
  | 2, _ => rfl
  | 3, _ => rfl
  | 4, _ => rfl
  | 5, _ => rfl
  | 6, _ => rfl
  | 7, _ => rfl
  | n + 8, h => exact absurd h (by omega)
theorem blX0 : ∀ j, j < 3 → defaultValue (tyX0 j) = vp_V (xF3 (fun _ => 0)) j := by
  intro j hj
  match j, hj with
  | 0, _ => rfl
  | 1, _ => rfl
  | 2, _ => rfl
  | n + 3, h => exact absurd h (by omega)
theorem cN_lt0 {Z : XZ} (h : WZ Z) (c : ¬ 10 ≤ nI (Z.N 0)) : Z.N 0 < 10 := by
  rw [show (10 : Int32) = nI 10 from rfl, nI_leI (by decide) h.n0] at c
  omega
theorem cN_lt1 {Z : XZ} (h : WZ Z) (c : ¬ 16 ≤ nI (Z.N 1)) : Z.N 1 < 16 := by
  rw [show (16 : Int32) = nI 16 from rfl, nI_leI (by decide) h.n1] at c
  omega
def X_piece (Z : XZ) (S : XS) (ui : Int32) (uf : Int32) (ud : Int32) : Option String :=
  if X_needRange Z S ui 0 2 = none then
    if X_needRange Z S uf 1 20000 = none then
      if X_needRange Z S ud 1 999 = none then
        if 10 ≤ (nI (Z.N 0)) then
          (some EISE)
        else
          if nI (Z.N 1) = 0 then
            none
          else
            (some EISE)
      else
        X_needRange Z S ud 1 999
    else
      X_needRange Z S uf 1 20000
  else
    X_needRange Z S ui 0 2
set_option maxHeartbeats 4000000 in
set_option maxRecDepth 100000 in
theorem cX_piece (G : GX) (hst : G.1.stackTraces = false) (Z : XZ) (S : XS) (ui : Int32) (uf : Int32) (ud : Int32) (hWZ : WZ Z) (hC : CW Z S) : FX G yX3_piece cX3_piece 4 (some .int) ({ frames := 7, cells := 5, slots := 802, locals := 213 }) [.ref (Z.A 0 0), .int ui, .int uf, .int ud] (xW G.2.2.2 G.2.1 Z S) (fun v w' => (X_piece Z S ui uf ud) = none ∧ v = some (.int (nI (Z.N 0))) ∧ ∃ h1 h2 : Nat, w' = xW G.2.2.2 G.2.1 (zA Z 0 h1 h2) (xset (X_iPiece (zO Z 1 h1) (xz S 1 (Z.O 1)) (Z.O 1) ui uf ud) 6 0 0 ((X_iPiece (zO Z 1 h1) (xz S 1 (Z.O 1)) (Z.O 1) ui uf ud).1 6 0 0 + 1))) (px (X_piece Z S ui uf ud) (xW G.2.2.2 G.2.1 Z S)) := by
  refine FX.go (lv := [(0, .ref (Z.A 0 0)), (1, .int ui), (2, .int uf), (3, .int ud)]) (by decide) (Nat.le_of_ble_eq_true rfl) rfl (fun p e s m args below meth c A H locs ls Q hx hb hr hts hown hml hlocks hout hK hE hI hA hl hQ => ?_)
  have hown : s.vm.findClass RX3 = some m.cls := hown
  refine lv_iload_n hx hb dX3_piece_0 rfl (lv_at hl 1 rfl) ?_
  refine lv_iconst (v := 0) hx hb dX3_piece_1 (by decide) ?_
  refine lv_iconst (v := 2) hx hb dX3_piece_2 (by decide) ?_
  refine dxS0 (rest := []) hx hb hml hts hown hK hE hI (cX_needRange G hst Z S ui 0 2) kX3_42 ⟨Nat.le_of_ble_eq_true rfl, Nat.le_of_ble_eq_true rfl⟩ hl.1 rfl (Nat.le_of_ble_eq_true rfl) dX3_piece_3 ⟨Nat.le_of_ble_eq_true rfl, Nat.le_of_ble_eq_true rfl⟩ (fun E9 ce q9 H locs h9 hI g1 g2 g3 => ?_) (fun t1 H locs hI => ?_)
  · have n9 : ¬ (X_needRange Z S ui 0 2) = none := fun z => by rw [h9] at z; cases z
    have HE : X_piece Z S ui uf ud = X_needRange Z S ui 0 2 := by exact (if_neg n9)
    exact rx_thru hout hlocks hI hA hQ ⟨by rw [HE]; exact h9, rfl⟩ (Nat.le_of_ble_eq_true rfl) (Nat.le_of_ble_eq_true rfl) g1 g2 g3
  · refine lv_iload_n hx hb dX3_piece_6 rfl (lv_at hl 2 rfl) ?_
    refine lv_iconst (v := 1) hx hb dX3_piece_7 (by decide) ?_
    refine lv_sipush (v := 20000) hx hb dX3_piece_8 (by decide) ?_
    refine dxS0 (rest := []) hx hb hml hts hown hK hE hI (cX_needRange G hst Z S uf 1 20000) kX3_42 ⟨Nat.le_of_ble_eq_true rfl, Nat.le_of_ble_eq_true rfl⟩ hl.1 rfl (Nat.le_of_ble_eq_true rfl) dX3_piece_11 ⟨Nat.le_of_ble_eq_true rfl, Nat.le_of_ble_eq_true rfl⟩ (fun E9 ce q9 H locs h9 hI g1 g2 g3 => ?_) (fun t2 H locs hI => ?_)
    · have n9 : ¬ (X_needRange Z S uf 1 20000) = none := fun z => by rw [h9] at z; cases z
      have HE : X_piece Z S ui uf ud = X_needRange Z S uf 1 20000 := by exact (if_pos t1).trans ((if_neg n9))
      exact rx_thru hout hlocks hI hA hQ ⟨by rw [HE]; exact h9, rfl⟩ (Nat.le_of_ble_eq_true rfl) (Nat.le_of_ble_eq_true rfl) g1 g2 g3
    · refine lv_iload_n hx hb dX3_piece_14 rfl (lv_at hl 3 rfl) ?_
      refine lv_iconst (v := 1) hx hb dX3_piece_15 (by decide) ?_
      refine lv_sipush (v := 999) hx hb dX3_piece_16 (by decide) ?_
      refine dxS0 (rest := []) hx hb hml hts hown hK hE hI (cX_needRange G hst Z S ud 1 999) kX3_42 ⟨Nat.le_of_ble_eq_true rfl, Nat.le_of_ble_eq_true rfl⟩ hl.1 rfl (Nat.le_of_ble_eq_true rfl) dX3_piece_19 ⟨Nat.le_of_ble_eq_true rfl, Nat.le_of_ble_eq_true rfl⟩ (fun E9 ce q9 H locs h9 hI g1 g2 g3 => ?_) (fun t3 H locs hI => ?_)
      · have n9 : ¬ (X_needRange Z S ud 1 999) = none := fun z => by rw [h9] at z; cases z
        have HE : X_piece Z S ui uf ud = X_needRange Z S ud 1 999 := by exact (if_pos t1).trans ((if_pos t2).trans ((if_neg n9)))
        exact rx_thru hout hlocks hI hA hQ ⟨by rw [HE]; exact h9, rfl⟩ (Nat.le_of_ble_eq_true rfl) (Nat.le_of_ble_eq_true rfl) g1 g2 g3
      · refine lv_aload_n hx hb dX3_piece_22 rfl (lv_at hl 0 rfl) ?_
        refine gX3_10 (i := 0) hx hb hts hown hK hI (by decide) dX3_piece_23 ?_
        refine cFv (rest := []) hx hb hml hts hown hK hE hI (cL_size G Z S 0 (by decide)) kF_46 ⟨Nat.le_of_ble_eq_true rfl, Nat.le_of_ble_eq_true rfl⟩ rfl rfl (kk := 6) (ii := 0) (xW6 (by decide)) rfl rfl hl.1 rfl (Nat.le_of_ble_eq_true rfl) dX3_piece_26 ⟨Nat.le_of_ble_eq_true rfl, Nat.le_of_ble_eq_true rfl⟩ (fun H locs hI => ?_)
        refine lv_bipush (v := 10) hx hb dX3_piece_31 (by decide) ?_
        refine lv_icmp_ge (tgt := 48) hx hb dX3_piece_33 (by decide) (fun c4 => ?_) (fun c4 => ?_)
        · have HE : X_piece Z S ui uf ud = (some EISE) := by exact (if_pos t1).trans ((if_pos t2).trans ((if_pos t3).trans ((if_pos c4))))
          exact fx_throw hx hb hst hts hown hE hI hA hQ (by decide +kernel) q199 q9 at_ISE go_ISE (text := "no more pieces can be laid") (List.mem_of_getElem? (i := 1) rfl) ⟨by rw [HE]; rfl, rfl⟩ (hl.1.trans hml.symm) hout hlocks (Nat.le_of_ble_eq_true rfl) (Nat.le_of_ble_eq_true rfl) (Nat.le_of_ble_eq_true rfl) (Nat.le_of_ble_eq_true rfl) (Nat.le_of_ble_eq_true rfl) (Nat.le_of_ble_eq_true rfl) dX3_piece_48 dX3_piece_51 dX3_piece_52 dX3_piece_54 dX3_piece_57
        · refine lv_aload_n hx hb dX3_piece_36 rfl (lv_at hl 0 rfl) ?_
          refine gX3_16 (i := 0) hx hb hts hown hK hI (by decide) dX3_piece_37 ?_
          refine cFv (rest := []) hx hb hml hts hown hK hE hI (cL_isEmpty G Z S 1 (by decide)) kF_52 ⟨Nat.le_of_ble_eq_true rfl, Nat.le_of_ble_eq_true rfl⟩ rfl rfl (kk := 6) (ii := 1) (xW6 (by decide)) rfl rfl hl.1 rfl (Nat.le_of_ble_eq_true rfl) dX3_piece_40 ⟨Nat.le_of_ble_eq_true rfl, Nat.le_of_ble_eq_true rfl⟩ (fun H locs hI => ?_)
          refine xb_ne (tgt := 58) hx hb dX3_piece_45 (by decide) (fun c5 => ?_) (fun c5 => ?_)
          · refine lv_aload_n hx hb dX3_piece_58 rfl (lv_at hl 0 rfl) ?_
            refine gX3_10 (i := 0) hx hb hts hown hK hI (by decide) dX3_piece_59 ?_
            have hN9 : Z.N 0 ≤ 9 := by
              have h9 := cN_lt0 hWZ c4
              omega
            obtain ⟨H0, eH0⟩ : ∃ z : Heap, z = H := ⟨_, rfl⟩
            refine fx_new (ci := 2) (k := 1) (i := Z.O 1) (fs := xF1 (fun _ => 0) FP.dconst0) hx hb hts hown hK hI inX1 rfl tyX1 tyX1_ok q215 q216 q10 blX1 (Nat.le_of_ble_eq_true rfl) (Nat.le_of_ble_eq_true rfl) (if_neg (Nat.lt_irrefl _)) dX3_piece_62 (fun H1 hI z1 => ?_)
            rw [zNew (k := 1) (e := (.inr (2, xF1 (fun _ => 0) FP.dconst0) : va_E)) (Or.inl rfl) hWZ.L hC rfl] at hI
            obtain ⟨Z1, eZ⟩ : ∃ z : XZ, z = zO Z 1 H.size := ⟨_, rfl⟩
            obtain ⟨S1, eS1⟩ : ∃ z : XS, z = xz S 1 (Z.O 1) := ⟨_, rfl⟩
            rw [← eZ, ← eS1] at hI
            have ea : H.size = Z1.A 1 (Z.O 1) := by rw [eZ, zO_As]
            rw [ea]
            have ho : Z.O 1 < Z1.O 1 := by rw [eZ, zO_Os]; omega
            refine lv_dup hx hb dX3_piece_65 rfl ?_
            refine lv_iload_n hx hb dX3_piece_66 rfl (lv_at hl 1 rfl) ?_
            refine lv_iload_n hx hb dX3_piece_67 rfl (lv_at hl 2 rfl) ?_
            refine lv_iload_n hx hb dX3_piece_68 rfl (lv_at hl 3 rfl) ?_
            refine cI0 (rest := [.ref (Z1.A 1 (Z.O 1)), .ref (Z.A 6 0)]) hx hb hml hts hown hK hE hI (cX_iPiece G Z1 S1 (Z.O 1) ui uf ud ho) kX3_65 ⟨(Nat.le_of_ble_eq_true rfl), (Nat.le_of_ble_eq_true rfl)⟩ rfl rfl hl.1 rfl (Nat.le_of_ble_eq_true rfl) dX3_piece_69 ⟨(Nat.le_of_ble_eq_true rfl), (Nat.le_of_ble_eq_true rfl)⟩ (fun H locs hI => ?_)
            obtain ⟨S2, eS2⟩ : ∃ z : XS, z = X_iPiece Z1 S1 (Z.O 1) ui uf ud := ⟨_, rfl⟩
            rw [← eS2] at hI
            rw [← eH0] at eZ
            have a6 : Z1.A 6 0 = Z.A 6 0 := by rw [eZ]; exact zO_A (fun z => by omega)
            have eN1 : Z1.N 0 = Z.O 1 := by rw [eZ]; exact hWZ.1
            have hLA : LA Z1 0 := by
              refine ⟨by decide, ?_, ?_, ?_, ?_, ?_⟩
              · rw [eZ]; exact (hWZ.2.2.2.2.2.2 0 (by decide)).1
              · rw [eZ]; exact (hWZ.2.2.2.2.2.2 0 (by decide)).2
              · rw [eZ]; show Z.N 0 ≤ 511; omega
              · rw [eN1]; exact ho
              · intro j hj; rw [eN1] at hj; exact Nat.lt_trans hj ho
            rw [← a6, ← eN1]
            refine fx_callF (rest := []) (as := [.ref (Z1.A (0 + 1) (Z1.N 0))]) hx hb hml hts hown hK hE hI (cL_add G Z1 S2 0 hLA) kF_67 ⟨(Nat.le_of_ble_eq_true rfl), (Nat.le_of_ble_eq_true rfl)⟩ (kk := 6) (ii := 0) (xW6 (by decide)) rfl rfl hl.1 (Nat.le_of_ble_eq_true rfl) dX3_piece_72 ⟨(Nat.le_of_ble_eq_true rfl), (Nat.le_of_ble_eq_true rfl)⟩ (fun v w' H locs hp hI => ?_)
            obtain ⟨rfl, h2, rfl⟩ := hp
            obtain ⟨S3, eS3⟩ : ∃ z : XS, z = xset S2 6 0 0 (S2.1 6 0 0 + 1) := ⟨_, rfl⟩
            rw [← eS3] at hI
            obtain ⟨Z2, eZ2⟩ : ∃ z : XZ, z = zN (zG Z1 0 h2) 0 := ⟨_, rfl⟩
            rw [← eZ2] at hI
            have eA : Z2 = zA Z 0 (H0.size) h2 := by rw [eZ2, eZ]; rfl
            have a0 : Z2.A 0 0 = Z.A 0 0 := by rw [eA]; exact zA_A (by decide) (by decide)
            refine lv_pop hx hb dX3_piece_77 rfl ?_
            rw [← a0] at hl
            refine lv_aload_n hx hb dX3_piece_78 rfl (lv_at hl 0 rfl) ?_
            refine gX3_10 (i := 0) hx hb hts hown hK hI (by decide) dX3_piece_79 ?_
            refine cFv (rest := []) hx hb hml hts hown hK hE hI (cL_size G Z2 S3 0 (by decide)) kF_46 ⟨(Nat.le_of_ble_eq_true rfl), (Nat.le_of_ble_eq_true rfl)⟩ rfl rfl (kk := 6) (ii := 0) (xW6 (by decide)) rfl rfl hl.1 rfl (Nat.le_of_ble_eq_true rfl) dX3_piece_82 ⟨(Nat.le_of_ble_eq_true rfl), (Nat.le_of_ble_eq_true rfl)⟩ (fun H locs hI => ?_)
            refine lv_iconst (v := 1) hx hb dX3_piece_87 (by decide) ?_
            refine lv_isub hx hb dX3_piece_88 ?_
            have n2 : Z2.N 0 = Z.N 0 + 1 := by rw [eA, zA_N, if_pos rfl]
            rw [n2, nI_pred]
            have HE : X_piece Z S ui uf ud = none := by exact (if_pos t1).trans ((if_pos t2).trans ((if_pos t3).trans ((if_neg c4).trans ((if_pos c5)))))
            exact rx_i hx hb hr hlocks hI hA hQ ⟨by rw [HE], rfl, H0.size, h2, by rw [← eA, eS3, eS2, eS1, eZ]⟩ (Nat.le_of_ble_eq_true rfl) (Nat.le_of_ble_eq_true rfl) dX3_piece_89
          · have HE : X_piece Z S ui uf ud = (some EISE) := by exact (if_pos t1).trans ((if_pos t2).trans ((if_pos t3).trans ((if_neg c4).trans ((if_neg c5)))))
            exact fx_throw hx hb hst hts hown hE hI hA hQ (by decide +kernel) q199 q9 at_ISE go_ISE (text := "no more pieces can be laid") (List.mem_of_getElem? (i := 1) rfl) ⟨by rw [HE]; rfl, rfl⟩ (hl.1.trans hml.symm) hout hlocks (Nat.le_of_ble_eq_true rfl) (Nat.le_of_ble_eq_true rfl) (Nat.le_of_ble_eq_true rfl) (Nat.le_of_ble_eq_true rfl) (Nat.le_of_ble_eq_true rfl) (Nat.le_of_ble_eq_true rfl) dX3_piece_48 dX3_piece_51 dX3_piece_52 dX3_piece_54 dX3_piece_57

def X_vehicle (Z : XZ) (S : XS) (ui : Int32) (uf : Int32) (ud : Int32) : Option String :=
  if X_needRange Z S ui 500 40000 = none then
    if X_needRange Z S uf 0 60000 = none then
      if X_needRange Z S ud 1 300 = none then
        if 16 ≤ (nI (Z.N 1)) then
          (some EISE)
        else
          if nI (Z.N 0) = 0 then
            (some EISE)
          else
            none
      else
        X_needRange Z S ud 1 300
    else
      X_needRange Z S uf 0 60000
  else
    X_needRange Z S ui 500 40000
set_option maxHeartbeats 4000000 in
set_option maxRecDepth 100000 in
theorem cX_vehicle (G : GX) (hst : G.1.stackTraces = false) (Z : XZ) (S : XS) (ui : Int32) (uf : Int32) (ud : Int32) (hWZ : WZ Z) (hC : CW Z S) : FX G yX3_vehicle cX3_vehicle 4 (some .int) ({ frames := 7, cells := 5, slots := 794, locals := 213 }) [.ref (Z.A 0 0), .int ui, .int uf, .int ud] (xW G.2.2.2 G.2.1 Z S) (fun v w' => (X_vehicle Z S ui uf ud) = none ∧ v = some (.int (nI (Z.N 1))) ∧ ∃ h1 h2 : Nat, w' = xW G.2.2.2 G.2.1 (zA Z 1 h1 h2) (xset (X_iVehicle (zO Z 2 h1) (xz S 2 (Z.O 2)) (Z.O 2) ui uf ud) 6 1 0 ((X_iVehicle (zO Z 2 h1) (xz S 2 (Z.O 2)) (Z.O 2) ui uf ud).1 6 1 0 + 1))) (px (X_vehicle Z S ui uf ud) (xW G.2.2.2 G.2.1 Z S)) := by
  refine FX.go (lv := [(0, .ref (Z.A 0 0)), (1, .int ui), (2, .int uf), (3, .int ud)]) (by decide) (Nat.le_of_ble_eq_true rfl) rfl (fun p e s m args below meth c A H locs ls Q hx hb hr hts hown hml hlocks hout hK hE hI hA hl hQ => ?_)
  have hown : s.vm.findClass RX3 = some m.cls := hown
  refine lv_iload_n hx hb dX3_vehicle_0 rfl (lv_at hl 1 rfl) ?_
  refine lv_sipush (v := 500) hx hb dX3_vehicle_1 (by decide) ?_
  refine lv_ldc (v := 40000) hx hb hown (hts _ q431) dX3_vehicle_4 ?_
  refine dxS0 (rest := []) hx hb hml hts hown hK hE hI (cX_needRange G hst Z S ui 500 40000) kX3_42 ⟨Nat.le_of_ble_eq_true rfl, Nat.le_of_ble_eq_true rfl⟩ hl.1 rfl (Nat.le_of_ble_eq_true rfl) dX3_vehicle_6 ⟨Nat.le_of_ble_eq_true rfl, Nat.le_of_ble_eq_true rfl⟩ (fun E9 ce q9 H locs h9 hI g1 g2 g3 => ?_) (fun t1 H locs hI => ?_)
  · have n9 : ¬ (X_needRange Z S ui 500 40000) = none := fun z => by rw [h9] at z; cases z
    have HE : X_vehicle Z S ui uf ud = X_needRange Z S ui 500 40000 := by exact (if_neg n9)
    exact rx_thru hout hlocks hI hA hQ ⟨by rw [HE]; exact h9, rfl⟩ (Nat.le_of_ble_eq_true rfl) (Nat.le_of_ble_eq_true rfl) g1 g2 g3
  · refine lv_iload_n hx hb dX3_vehicle_9 rfl (lv_at hl 2 rfl) ?_
    refine lv_iconst (v := 0) hx hb dX3_vehicle_10 (by decide) ?_
    refine lv_ldc (v := 60000) hx hb hown (hts _ q432) dX3_vehicle_11 ?_
    refine dxS0 (rest := []) hx hb hml hts hown hK hE hI (cX_needRange G hst Z S uf 0 60000) kX3_42 ⟨Nat.le_of_ble_eq_true rfl, Nat.le_of_ble_eq_true rfl⟩ hl.1 rfl (Nat.le_of_ble_eq_true rfl) dX3_vehicle_13 ⟨Nat.le_of_ble_eq_true rfl, Nat.le_of_ble_eq_true rfl⟩ (fun E9 ce q9 H locs h9 hI g1 g2 g3 => ?_) (fun t2 H locs hI => ?_)
    · have n9 : ¬ (X_needRange Z S uf 0 60000) = none := fun z => by rw [h9] at z; cases z
      have HE : X_vehicle Z S ui uf ud = X_needRange Z S uf 0 60000 := by exact (if_pos t1).trans ((if_neg n9))
      exact rx_thru hout hlocks hI hA hQ ⟨by rw [HE]; exact h9, rfl⟩ (Nat.le_of_ble_eq_true rfl) (Nat.le_of_ble_eq_true rfl) g1 g2 g3
    · refine lv_iload_n hx hb dX3_vehicle_16 rfl (lv_at hl 3 rfl) ?_
      refine lv_iconst (v := 1) hx hb dX3_vehicle_17 (by decide) ?_
      refine lv_sipush (v := 300) hx hb dX3_vehicle_18 (by decide) ?_
      refine dxS0 (rest := []) hx hb hml hts hown hK hE hI (cX_needRange G hst Z S ud 1 300) kX3_42 ⟨Nat.le_of_ble_eq_true rfl, Nat.le_of_ble_eq_true rfl⟩ hl.1 rfl (Nat.le_of_ble_eq_true rfl) dX3_vehicle_21 ⟨Nat.le_of_ble_eq_true rfl, Nat.le_of_ble_eq_true rfl⟩ (fun E9 ce q9 H locs h9 hI g1 g2 g3 => ?_) (fun t3 H locs hI => ?_)
      · have n9 : ¬ (X_needRange Z S ud 1 300) = none := fun z => by rw [h9] at z; cases z
        have HE : X_vehicle Z S ui uf ud = X_needRange Z S ud 1 300 := by exact (if_pos t1).trans ((if_pos t2).trans ((if_neg n9)))
        exact rx_thru hout hlocks hI hA hQ ⟨by rw [HE]; exact h9, rfl⟩ (Nat.le_of_ble_eq_true rfl) (Nat.le_of_ble_eq_true rfl) g1 g2 g3
      · refine lv_aload_n hx hb dX3_vehicle_24 rfl (lv_at hl 0 rfl) ?_
        refine gX3_16 (i := 0) hx hb hts hown hK hI (by decide) dX3_vehicle_25 ?_
        refine cFv (rest := []) hx hb hml hts hown hK hE hI (cL_size G Z S 1 (by decide)) kF_46 ⟨Nat.le_of_ble_eq_true rfl, Nat.le_of_ble_eq_true rfl⟩ rfl rfl (kk := 6) (ii := 1) (xW6 (by decide)) rfl rfl hl.1 rfl (Nat.le_of_ble_eq_true rfl) dX3_vehicle_28 ⟨Nat.le_of_ble_eq_true rfl, Nat.le_of_ble_eq_true rfl⟩ (fun H locs hI => ?_)
        refine lv_bipush (v := 16) hx hb dX3_vehicle_33 (by decide) ?_
        refine lv_icmp_ge (tgt := 50) hx hb dX3_vehicle_35 (by decide) (fun c4 => ?_) (fun c4 => ?_)
        · have HE : X_vehicle Z S ui uf ud = (some EISE) := by exact (if_pos t1).trans ((if_pos t2).trans ((if_pos t3).trans ((if_pos c4))))
          exact fx_throw hx hb hst hts hown hE hI hA hQ (by decide +kernel) q199 q9 at_ISE go_ISE (text := "no vehicle can be added") (List.mem_of_getElem? (i := 4) rfl) ⟨by rw [HE]; rfl, rfl⟩ (hl.1.trans hml.symm) hout hlocks (Nat.le_of_ble_eq_true rfl) (Nat.le_of_ble_eq_true rfl) (Nat.le_of_ble_eq_true rfl) (Nat.le_of_ble_eq_true rfl) (Nat.le_of_ble_eq_true rfl) (Nat.le_of_ble_eq_true rfl) dX3_vehicle_50 dX3_vehicle_53 dX3_vehicle_54 dX3_vehicle_56 dX3_vehicle_59
        · refine lv_aload_n hx hb dX3_vehicle_38 rfl (lv_at hl 0 rfl) ?_
          refine gX3_10 (i := 0) hx hb hts hown hK hI (by decide) dX3_vehicle_39 ?_
          refine cFv (rest := []) hx hb hml hts hown hK hE hI (cL_isEmpty G Z S 0 (by decide)) kF_52 ⟨Nat.le_of_ble_eq_true rfl, Nat.le_of_ble_eq_true rfl⟩ rfl rfl (kk := 6) (ii := 0) (xW6 (by decide)) rfl rfl hl.1 rfl (Nat.le_of_ble_eq_true rfl) dX3_vehicle_42 ⟨Nat.le_of_ble_eq_true rfl, Nat.le_of_ble_eq_true rfl⟩ (fun H locs hI => ?_)
          refine xb_eq (tgt := 60) hx hb dX3_vehicle_47 (by decide) (fun c5 => ?_) (fun c5 => ?_)
          · refine lv_aload_n hx hb dX3_vehicle_60 rfl (lv_at hl 0 rfl) ?_
            refine gX3_16 (i := 0) hx hb hts hown hK hI (by decide) dX3_vehicle_61 ?_
            have hN9 : Z.N 1 ≤ 15 := by
              have h9 := cN_lt1 hWZ c4
              omega
            obtain ⟨H0, eH0⟩ : ∃ z : Heap, z = H := ⟨_, rfl⟩
            refine fx_new (ci := 3) (k := 2) (i := Z.O 2) (fs := xF2 Z (fun _ => 0) 0) hx hb hts hown hK hI inX2 rfl tyX2 tyX2_ok q434 q435 q18 (blX2 Z) (Nat.le_of_ble_eq_true rfl) (Nat.le_of_ble_eq_true rfl) (if_neg (Nat.lt_irrefl _)) dX3_vehicle_64 (fun H1 hI z1 => ?_)
            rw [zNew (k := 2) (e := (.inr (3, xF2 Z (fun _ => 0) 0) : va_E)) (Or.inr (Or.inl rfl)) hWZ.L hC rfl] at hI
            obtain ⟨Z1, eZ⟩ : ∃ z : XZ, z = zO Z 2 H.size := ⟨_, rfl⟩
            obtain ⟨S1, eS1⟩ : ∃ z : XS, z = xz S 2 (Z.O 2) := ⟨_, rfl⟩
            rw [← eZ, ← eS1] at hI
            have ea : H.size = Z1.A 2 (Z.O 2) := by rw [eZ, zO_As]
            rw [ea]
            have ho : Z.O 2 < Z1.O 2 := by rw [eZ, zO_Os]; omega
            refine lv_dup hx hb dX3_vehicle_67 rfl ?_
            refine lv_iload_n hx hb dX3_vehicle_68 rfl (lv_at hl 1 rfl) ?_
            refine lv_iload_n hx hb dX3_vehicle_69 rfl (lv_at hl 2 rfl) ?_
            refine lv_iload_n hx hb dX3_vehicle_70 rfl (lv_at hl 3 rfl) ?_
            refine cI0 (rest := [.ref (Z1.A 2 (Z.O 2)), .ref (Z.A 6 1)]) hx hb hml hts hown hK hE hI (cX_iVehicle G Z1 S1 (Z.O 2) ui uf ud ho) kX3_113 ⟨(Nat.le_of_ble_eq_true rfl), (Nat.le_of_ble_eq_true rfl)⟩ rfl rfl hl.1 rfl (Nat.le_of_ble_eq_true rfl) dX3_vehicle_71 ⟨(Nat.le_of_ble_eq_true rfl), (Nat.le_of_ble_eq_true rfl)⟩ (fun H locs hI => ?_)
            obtain ⟨S2, eS2⟩ : ∃ z : XS, z = X_iVehicle Z1 S1 (Z.O 2) ui uf ud := ⟨_, rfl⟩
            rw [← eS2] at hI
            rw [← eH0] at eZ
            have a6 : Z1.A 6 1 = Z.A 6 1 := by rw [eZ]; exact zO_A (fun z => by omega)
            have eN1 : Z1.N 1 = Z.O 2 := by rw [eZ]; exact hWZ.2.1
            have hLA : LA Z1 1 := by
              refine ⟨by decide, ?_, ?_, ?_, ?_, ?_⟩
              · rw [eZ]; exact (hWZ.2.2.2.2.2.2 1 (by decide)).1
              · rw [eZ]; exact (hWZ.2.2.2.2.2.2 1 (by decide)).2
              · rw [eZ]; show Z.N 1 ≤ 511; omega
              · rw [eN1]; exact ho
              · intro j hj; rw [eN1] at hj; exact Nat.lt_trans hj ho
            rw [← a6, ← eN1]
            refine fx_callF (rest := []) (as := [.ref (Z1.A (1 + 1) (Z1.N 1))]) hx hb hml hts hown hK hE hI (cL_add G Z1 S2 1 hLA) kF_67 ⟨(Nat.le_of_ble_eq_true rfl), (Nat.le_of_ble_eq_true rfl)⟩ (kk := 6) (ii := 1) (xW6 (by decide)) rfl rfl hl.1 (Nat.le_of_ble_eq_true rfl) dX3_vehicle_74 ⟨(Nat.le_of_ble_eq_true rfl), (Nat.le_of_ble_eq_true rfl)⟩ (fun v w' H locs hp hI => ?_)
            obtain ⟨rfl, h2, rfl⟩ := hp
            obtain ⟨S3, eS3⟩ : ∃ z : XS, z = xset S2 6 1 0 (S2.1 6 1 0 + 1) := ⟨_, rfl⟩
            rw [← eS3] at hI
            obtain ⟨Z2, eZ2⟩ : ∃ z : XZ, z = zN (zG Z1 1 h2) 1 := ⟨_, rfl⟩
            rw [← eZ2] at hI
            have eA : Z2 = zA Z 1 (H0.size) h2 := by rw [eZ2, eZ]; rfl
            have a0 : Z2.A 0 0 = Z.A 0 0 := by rw [eA]; exact zA_A (by decide) (by decide)
            refine lv_pop hx hb dX3_vehicle_79 rfl ?_
            rw [← a0] at hl
            refine lv_aload_n hx hb dX3_vehicle_80 rfl (lv_at hl 0 rfl) ?_
            refine gX3_16 (i := 0) hx hb hts hown hK hI (by decide) dX3_vehicle_81 ?_
            refine cFv (rest := []) hx hb hml hts hown hK hE hI (cL_size G Z2 S3 1 (by decide)) kF_46 ⟨(Nat.le_of_ble_eq_true rfl), (Nat.le_of_ble_eq_true rfl)⟩ rfl rfl (kk := 6) (ii := 1) (xW6 (by decide)) rfl rfl hl.1 rfl (Nat.le_of_ble_eq_true rfl) dX3_vehicle_84 ⟨(Nat.le_of_ble_eq_true rfl), (Nat.le_of_ble_eq_true rfl)⟩ (fun H locs hI => ?_)
            refine lv_iconst (v := 1) hx hb dX3_vehicle_89 (by decide) ?_
            refine lv_isub hx hb dX3_vehicle_90 ?_
            have n2 : Z2.N 1 = Z.N 1 + 1 := by rw [eA, zA_N, if_pos rfl]
            rw [n2, nI_pred]
            have HE : X_vehicle Z S ui uf ud = none := by exact (if_pos t1).trans ((if_pos t2).trans ((if_pos t3).trans ((if_neg c4).trans ((if_neg c5)))))
            exact rx_i hx hb hr hlocks hI hA hQ ⟨by rw [HE], rfl, H0.size, h2, by rw [← eA, eS3, eS2, eS1, eZ]⟩ (Nat.le_of_ble_eq_true rfl) (Nat.le_of_ble_eq_true rfl) dX3_vehicle_91
          · have HE : X_vehicle Z S ui uf ud = (some EISE) := by exact (if_pos t1).trans ((if_pos t2).trans ((if_pos t3).trans ((if_neg c4).trans ((if_pos c5)))))
            exact fx_throw hx hb hst hts hown hE hI hA hQ (by decide +kernel) q199 q9 at_ISE go_ISE (text := "no vehicle can be added") (List.mem_of_getElem? (i := 4) rfl) ⟨by rw [HE]; rfl, rfl⟩ (hl.1.trans hml.symm) hout hlocks (Nat.le_of_ble_eq_true rfl) (Nat.le_of_ble_eq_true rfl) (Nat.le_of_ble_eq_true rfl) (Nat.le_of_ble_eq_true rfl) (Nat.le_of_ble_eq_true rfl) (Nat.le_of_ble_eq_true rfl) dX3_vehicle_50 dX3_vehicle_53 dX3_vehicle_54 dX3_vehicle_56 dX3_vehicle_59

