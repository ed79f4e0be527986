theorem cN_lt2 {Z : XZ} (h : WZ Z) (c : nI (Z.N 2) < 512) : Z.N 2 < 512 := by
  rw [show (512 : Int32) = nI 512 from rfl, Int32.lt_iff_toInt_lt, nI_toInt h.n2, nI_toInt (by decide)] at c
  omega
theorem xz_c {S : XS} {k i : Nat} (h : k ≠ 2) : (xz S k i).2.2 = S.2.2 := funext fun j => if_neg (fun z => h z.1)
def X_loadS (Z : XZ) (S : XS) (h1 j : Nat) (ug uk : Int32) : XS :=
  let S2 := X_iLoad (zO Z 3 h1) (xz S 3 (Z.O 3)) (Z.O 3) ug uk
  let S3 := xset S2 6 2 0 (S2.1 6 2 0 + 1)
  let S4 := xcset S3 j (Z.O 3 + 1)
  xset S4 5 3 ug.toNatClampNeg (S4.1 5 3 ug.toNatClampNeg + uk)
def X_load (Z : XZ) (S : XS) (uv : Int32) (ug : Int32) (uk : Int32) : Option String :=
  if X_vehicleNumbered Z S uv = none then
    if X_needGoods Z S ug = none then
      if X_needRange Z S uk 1 (S.1 2 uv.toNatClampNeg 1) = none then
        if (S.1 2 uv.toNatClampNeg 3) = 0 then
          if (S.2.2 uv.toNatClampNeg) = 0 then
            if (nI (Z.N 2)) < 512 then
              none
            else
              (some EISE)
          else
            (some EISE)
        else
          (some EISE)
      else
        X_needRange Z S uk 1 (S.1 2 uv.toNatClampNeg 1)
    else
      X_needGoods Z S ug
  else
    X_vehicleNumbered Z S uv
set_option maxHeartbeats 4000000 in
set_option maxRecDepth 100000 in
theorem cX_load (G : GX) (hst : G.1.stackTraces = false) (Z : XZ) (S : XS) (uv : Int32) (ug : Int32) (uk : Int32) (hWZ : WZ Z) (hC : CW Z S) : FX G yX3_load cX3_load 6 (some .int) ({ frames := 7, cells := 5, slots := 789, locals := 213 }) [.ref (Z.A 0 0), .int uv, .int ug, .int uk] (xW G.2.2.2 G.2.1 Z S) (fun v w' => (X_load Z S uv ug uk) = none ∧ ∃ h1 h2 : Nat, v = some (.int (X_weight (zA Z 2 h1 h2) (X_loadS Z S h1 uv.toNatClampNeg ug uk) uv.toNatClampNeg)) ∧ w' = xW G.2.2.2 G.2.1 (zA Z 2 h1 h2) (X_loadS Z S h1 uv.toNatClampNeg ug uk)) (px (X_load Z S uv ug uk) (xW G.2.2.2 G.2.1 Z S)) := by
  refine FX.go (lv := [(0, .ref (Z.A 0 0)), (1, .int uv), (2, .int ug), (3, .int uk)]) (by decide) (Nat.le_of_ble_eq_true rfl) rfl (fun p e s m args below meth c A H locs ls Q hx hb hr hts hown hml hlocks hout hK hE hI hA hl hQ => ?_)
  have hown : s.vm.findClass RX3 = some m.cls := hown
  refine lv_aload_n hx hb dX3_load_0 rfl (lv_at hl 0 rfl) ?_
  refine lv_iload_n hx hb dX3_load_1 rfl (lv_at hl 1 rfl) ?_
  refine dxVv (rest := []) hx hb hml hts hown hK hE hI (cX_vehicleNumbered G hst Z S uv hWZ) kX3_114 ⟨Nat.le_of_ble_eq_true rfl, Nat.le_of_ble_eq_true rfl⟩ (kk := 0) (ii := 0) (xW0 (by decide)) rfl rfl hl.1 rfl (Nat.le_of_ble_eq_true rfl) dX3_load_2 ⟨Nat.le_of_ble_eq_true rfl, Nat.le_of_ble_eq_true rfl⟩ (fun E9 ce q9 H locs h9 hI g1 g2 g3 => ?_) (fun t1 H locs hI => ?_)
  · have n9 : ¬ (X_vehicleNumbered Z S uv) = none := fun z => by rw [h9] at z; cases z
    have HE : X_load Z S uv ug uk = X_vehicleNumbered Z S uv := by exact (if_neg n9)
    exact rx_thru hout hlocks hI hA hQ ⟨by rw [HE]; exact h9, rfl⟩ (Nat.le_of_ble_eq_true rfl) (Nat.le_of_ble_eq_true rfl) g1 g2 g3
  · refine lv_astore (lv' := [(4, .ref (Z.A 2 uv.toNatClampNeg)), (0, .ref (Z.A 0 0)), (1, .int uv), (2, .int ug), (3, .int uk)]) hx hb dX3_load_5 hl (by decide) rfl (fun ls hl => ?_)
    refine lv_iload_n hx hb dX3_load_7 rfl (lv_at hl 3 rfl) ?_
    refine dxS0 (rest := []) hx hb hml hts hown hK hE hI (cX_needGoods G hst Z S ug) kX3_118 ⟨Nat.le_of_ble_eq_true rfl, Nat.le_of_ble_eq_true rfl⟩ hl.1 rfl (Nat.le_of_ble_eq_true rfl) dX3_load_8 ⟨Nat.le_of_ble_eq_true rfl, Nat.le_of_ble_eq_true rfl⟩ (fun E9 ce q9 H locs h9 hI g1 g2 g3 => ?_) (fun t2 H locs hI => ?_)
    · have n9 : ¬ (X_needGoods Z S ug) = none := fun z => by rw [h9] at z; cases z
      have HE : X_load Z S uv ug uk = X_needGoods Z S ug := by exact (if_pos t1).trans ((if_neg n9))
      exact rx_thru hout hlocks hI hA hQ ⟨by rw [HE]; exact h9, rfl⟩ (Nat.le_of_ble_eq_true rfl) (Nat.le_of_ble_eq_true rfl) g1 g2 g3
    · refine lv_iload_n hx hb dX3_load_11 rfl (lv_at hl 4 rfl) ?_
      refine lv_iconst (v := 1) hx hb dX3_load_12 (by decide) ?_
      refine lv_aload hx hb dX3_load_13 (lv_at hl 0 rfl) ?_
      refine gX3_122 (i := uv.toNatClampNeg) hx hb hts hown hK hI (vN_lt hWZ t1) dX3_load_15 ?_
      refine dxS0 (rest := []) hx hb hml hts hown hK hE hI (cX_needRange G hst Z S uk 1 (S.1 2 uv.toNatClampNeg 1)) kX3_42 ⟨Nat.le_of_ble_eq_true rfl, Nat.le_of_ble_eq_true rfl⟩ hl.1 rfl (Nat.le_of_ble_eq_true rfl) dX3_load_18 ⟨Nat.le_of_ble_eq_true rfl, Nat.le_of_ble_eq_true rfl⟩ (fun E9 ce q9 H locs h9 hI g1 g2 g3 => ?_) (fun t3 H locs hI => ?_)
      · have n9 : ¬ (X_needRange Z S uk 1 (S.1 2 uv.toNatClampNeg 1)) = none := fun z => by rw [h9] at z; cases z
        have HE : X_load Z S uv ug uk = X_needRange Z S uk 1 (S.1 2 uv.toNatClampNeg 1) := by exact (if_pos t1).trans ((if_pos t2).trans ((if_neg n9)))
        exact rx_thru hout hlocks hI hA hQ ⟨by rw [HE]; exact h9, rfl⟩ (Nat.le_of_ble_eq_true rfl) (Nat.le_of_ble_eq_true rfl) g1 g2 g3
      · refine lv_aload hx hb dX3_load_21 (lv_at hl 0 rfl) ?_
        refine gX3_125 (i := uv.toNatClampNeg) hx hb hts hown hK hI (vN_lt hWZ t1) dX3_load_23 ?_
        refine lv_if_ne (tgt := 52) hx hb dX3_load_26 (by decide) (fun c4 => ?_) (fun c4 => ?_)
        · have HE : X_load Z S uv ug uk = (some EISE) := by exact (if_pos t1).trans ((if_pos t2).trans ((if_pos t3).trans ((if_neg c4))))
          exact fx_throw hx hb hst hts hown hE hI hA hQ (by decide +kernel) q199 q9 at_ISE go_ISE (text := "the vehicle can't be loaded") (List.mem_of_getElem? (i := 7) rfl) ⟨by rw [HE]; rfl, rfl⟩ (hl.1.trans hml.symm) hout hlocks (Nat.le_of_ble_eq_true rfl) (Nat.le_of_ble_eq_true rfl) (Nat.le_of_ble_eq_true rfl) (Nat.le_of_ble_eq_true rfl) (Nat.le_of_ble_eq_true rfl) (Nat.le_of_ble_eq_true rfl) dX3_load_52 dX3_load_55 dX3_load_56 dX3_load_58 dX3_load_61
        · refine lv_aload hx hb dX3_load_29 (lv_at hl 0 rfl) ?_
          refine gX3_128 (i := uv.toNatClampNeg) hx hb hts hown hK hI (vN_lt hWZ t1) dX3_load_31 ?_
          refine xb_ifnonnull (tgt := 52) hx hb dX3_load_34 (by decide) (fun c5 => ?_) (fun c5 => ?_)
          · have HE : X_load Z S uv ug uk = (some EISE) := by exact (if_pos t1).trans ((if_pos t2).trans ((if_pos t3).trans ((if_pos c4).trans ((if_neg c5)))))
            exact fx_throw hx hb hst hts hown hE hI hA hQ (by decide +kernel) q199 q9 at_ISE go_ISE (text := "the vehicle can't be loaded") (List.mem_of_getElem? (i := 7) rfl) ⟨by rw [HE]; rfl, rfl⟩ (hl.1.trans hml.symm) hout hlocks (Nat.le_of_ble_eq_true rfl) (Nat.le_of_ble_eq_true rfl) (Nat.le_of_ble_eq_true rfl) (Nat.le_of_ble_eq_true rfl) (Nat.le_of_ble_eq_true rfl) (Nat.le_of_ble_eq_true rfl) dX3_load_52 dX3_load_55 dX3_load_56 dX3_load_58 dX3_load_61
          · refine lv_aload_n hx hb dX3_load_37 rfl (lv_at hl 1 rfl) ?_
            refine gX3_19 (i := 0) hx hb hts hown hK hI (by decide) dX3_load_38 ?_
            refine cFv (rest := []) hx hb hml hts hown hK hE hI (cL_size G Z S 2 (by decide)) kF_46 ⟨Nat.le_of_ble_eq_true rfl, Nat.le_of_ble_eq_true rfl⟩ rfl rfl (kk := 6) (ii := 2) (xW6 (by decide)) rfl rfl hl.1 rfl (Nat.le_of_ble_eq_true rfl) dX3_load_41 ⟨Nat.le_of_ble_eq_true rfl, Nat.le_of_ble_eq_true rfl⟩ (fun H locs hI => ?_)
            refine lv_sipush (v := 512) hx hb dX3_load_46 (by decide) ?_
            refine lv_icmp_lt (tgt := 62) hx hb dX3_load_49 (by decide) (fun c6 => ?_) (fun c6 => ?_)
            · have hN9 : Z.N 2 ≤ 511 := by
                have h9 := cN_lt2 hWZ c6
                omega
              have hj := (vN_lt hWZ t1)
              obtain ⟨H0, eH0⟩ : ∃ z : Heap, z = H := ⟨_, rfl⟩
              refine fx_new (ci := 1) (k := 3) (i := Z.O 3) (fs := xF3 (fun _ => 0)) hx hb hts hown hK hI inX0 rfl tyX0 tyX0_ok q487 q488 q19 blX0 (Nat.le_of_ble_eq_true rfl) (Nat.le_of_ble_eq_true rfl) (if_neg (Nat.lt_irrefl _)) dX3_load_62 (fun H1 hI z1 => ?_)
              rw [zNew (k := 3) (e := (.inr (1, xF3 (fun _ => 0)) : va_E)) (Or.inr (Or.inr rfl)) hWZ.L hC rfl] at hI
              obtain ⟨Z1, eZ⟩ : ∃ z : XZ, z = zO Z 3 H.size := ⟨_, rfl⟩
              obtain ⟨S1, eS1⟩ : ∃ z : XS, z = xz S 3 (Z.O 3) := ⟨_, rfl⟩
              rw [← eZ, ← eS1] at hI
              have ea : H.size = Z1.A 3 (Z.O 3) := by rw [eZ, zO_As]
              rw [ea]
              have ho : Z.O 3 < Z1.O 3 := by rw [eZ, zO_Os]; omega
              refine lv_dup hx hb dX3_load_65 rfl ?_
              refine lv_iload_n hx hb dX3_load_66 rfl (lv_at hl 3 rfl) ?_
              refine lv_iload_n hx hb dX3_load_67 rfl (lv_at hl 4 rfl) ?_
              refine cI0 (rest := [.ref (Z1.A 3 (Z.O 3))]) hx hb hml hts hown hK hE hI (cX_iLoad G Z1 S1 (Z.O 3) ug uk ho) kX3_136 ⟨(Nat.le_of_ble_eq_true rfl), (Nat.le_of_ble_eq_true rfl)⟩ rfl rfl hl.1 rfl (Nat.le_of_ble_eq_true rfl) dX3_load_68 ⟨(Nat.le_of_ble_eq_true rfl), (Nat.le_of_ble_eq_true rfl)⟩ (fun H locs hI => ?_)
              obtain ⟨S2, eS2⟩ : ∃ z : XS, z = X_iLoad Z1 S1 (Z.O 3) ug uk := ⟨_, rfl⟩
              rw [← eS2] at hI
              rw [← eH0] at eZ
              refine lv_astore (lv' := [(5, .ref (Z1.A 3 (Z.O 3))), (4, .ref (Z.A 2 uv.toNatClampNeg)), (0, .ref (Z.A 0 0)), (1, .int uv), (2, .int ug), (3, .int uk)]) hx hb dX3_load_71 hl (by decide) rfl (fun ls hl => ?_)
              have b0 : Z1.A 0 0 = Z.A 0 0 := by rw [eZ]; exact zO_A (fun z => by omega)
              rw [← b0] at hl
              refine lv_aload_n hx hb dX3_load_73 rfl (lv_at hl 2 rfl) ?_
              refine gX3_19 (i := 0) hx hb hts hown hK hI (by decide) dX3_load_74 ?_
              refine lv_aload hx hb dX3_load_77 (lv_at hl 0 rfl) ?_
              have eN1 : Z1.N 2 = Z.O 3 := by rw [eZ]; exact hWZ.2.2.1
              have hLA : LA Z1 2 := by
                refine ⟨by decide, ?_, ?_, ?_, ?_, ?_⟩
                · rw [eZ]; exact (hWZ.2.2.2.2.2.2 2 (by decide)).1
                · rw [eZ]; exact (hWZ.2.2.2.2.2.2 2 (by decide)).2
                · rw [eZ]; show Z.N 2 ≤ 511; omega
                · rw [eN1]; exact ho
                · intro j hj; rw [eN1] at hj; exact Nat.lt_trans hj ho
              have h6 := cL_add G Z1 S2 2 hLA
              rw [eN1] at h6
              refine fx_callF (rest := []) (as := [.ref (Z1.A 3 (Z.O 3))]) hx hb hml hts hown hK hE hI h6 kF_67 ⟨(Nat.le_of_ble_eq_true rfl), (Nat.le_of_ble_eq_true rfl)⟩ (kk := 6) (ii := 2) (xW6 (by decide)) rfl rfl hl.1 (Nat.le_of_ble_eq_true rfl) dX3_load_79 ⟨(Nat.le_of_ble_eq_true rfl), (Nat.le_of_ble_eq_true rfl)⟩ (fun v w' H locs hp hI => ?_)
              obtain ⟨rfl, h2, rfl⟩ := hp
              obtain ⟨S3, eS3⟩ : ∃ z : XS, z = xset S2 6 2 0 (S2.1 6 2 0 + 1) := ⟨_, rfl⟩
              rw [← eS3] at hI
              obtain ⟨Z2, eZ2⟩ : ∃ z : XZ, z = zN (zG Z1 2 h2) 2 := ⟨_, rfl⟩
              rw [← eZ2] at hI
              have eA : Z2 = zA Z 2 H0.size h2 := by rw [eZ2, eZ]; rfl
              have a0 : Z2.A 0 0 = Z1.A 0 0 := by rw [eZ2]; exact zG_A (by decide)
              have c3 : Z2.A 3 (Z.O 3) = Z1.A 3 (Z.O 3) := by rw [eZ2]; exact zG_A (by decide)
              have c2 : Z2.A 2 uv.toNatClampNeg = Z.A 2 uv.toNatClampNeg := by rw [eA]; exact zA_A (by decide) (by decide)
              have o2 : Z2.O 2 = Z.O 2 := by rw [eA, zA_O]; rfl
              have o3 : Z2.O 3 = Z.O 3 + 1 := by rw [eA, zA_O]; rfl
              rw [← a0, ← c3, ← c2] at hl
              rw [← o2] at hj
              refine lv_pop hx hb dX3_load_84 rfl ?_
              refine lv_aload hx hb dX3_load_85 (lv_at hl 1 rfl) ?_
              refine lv_aload hx hb dX3_load_87 (lv_at hl 0 rfl) ?_
              obtain ⟨S4, eS4⟩ : ∃ z : XS, z = xcset S3 uv.toNatClampNeg (Z.O 3 + 1) := ⟨_, rfl⟩
              refine pX3_128 (i := uv.toNatClampNeg) hx hb hts hown hK hI hj oV_succ.symm eS4 dX3_load_89 (fun H locs hI => ?_)
              refine lv_aload_n hx hb dX3_load_92 rfl (lv_at hl 2 rfl) ?_
              refine gX3_22 (i := 0) hx hb hts hown hK hI (by decide) dX3_load_93 ?_
              refine lv_iload_n hx hb dX3_load_96 rfl (lv_at hl 4 rfl) ?_
              refine lv_dup2_11 hx hb dX3_load_97 rfl rfl ?_
              refine lX_5 (n := 3) hx hb hK hI (by decide) (nG_in t2) dX3_load_98 ?_
              refine lv_iload_n hx hb dX3_load_99 rfl (lv_at hl 5 rfl) ?_
              refine lv_iadd hx hb dX3_load_100 ?_
              obtain ⟨S5, eS5⟩ : ∃ z : XS, z = xset S4 5 3 ug.toNatClampNeg (S4.1 5 3 ug.toNatClampNeg + uk) := ⟨_, rfl⟩
              refine sX_5 (n := 3) hx hb hK hI (by decide) (nG_in t2) eS5 dX3_load_101 (fun H locs hI => ?_)
              refine lv_aload hx hb dX3_load_102 (lv_at hl 1 rfl) ?_
              have e3 : S3.2.2 = S.2.2 := by rw [eS3, eS2, eS1]; exact xz_c (by decide)
              have hC3 : CW Z2 S3 := fun j => by rw [e3, o3]; have := hC j; omega
              have hC5 : CW Z2 S5 := CW_set eS5 (CW_c eS4 (by rw [o3]; exact Nat.le_refl _) hC3)
              refine cVv (rest := []) hx hb hml hts hown hK hE hI (cX_weight G Z2 S5 uv.toNatClampNeg hj hC5) kX3_139 ⟨(Nat.le_of_ble_eq_true rfl), (Nat.le_of_ble_eq_true rfl)⟩ rfl rfl (kk := 2) (ii := uv.toNatClampNeg) (xW2 hj) rfl rfl hl.1 rfl (Nat.le_of_ble_eq_true rfl) dX3_load_104 ⟨(Nat.le_of_ble_eq_true rfl), (Nat.le_of_ble_eq_true rfl)⟩ (fun H locs hI => ?_)
              have HE : X_load Z S uv ug uk = none := by exact (if_pos t1).trans ((if_pos t2).trans ((if_pos t3).trans ((if_pos c4).trans ((if_pos c5).trans ((if_pos c6))))))
              have eS : S5 = X_loadS Z S H0.size uv.toNatClampNeg ug uk := by rw [eS5, eS4, eS3, eS2, eS1, eZ]; rfl
              exact rx_i hx hb hr hlocks hI hA hQ ⟨by rw [HE], H0.size, h2, by rw [← eA, ← eS], by rw [← eA, ← eS]⟩ (Nat.le_of_ble_eq_true rfl) (Nat.le_of_ble_eq_true rfl) dX3_load_107
            · have HE : X_load Z S uv ug uk = (some EISE) := by exact (if_pos t1).trans ((if_pos t2).trans ((if_pos t3).trans ((if_pos c4).trans ((if_pos c5).trans ((if_neg c6))))))
              exact fx_throw hx hb hst hts hown hE hI hA hQ (by decide +kernel) q199 q9 at_ISE go_ISE (text := "the vehicle can't be loaded") (List.mem_of_getElem? (i := 7) rfl) ⟨by rw [HE]; rfl, rfl⟩ (hl.1.trans hml.symm) hout hlocks (Nat.le_of_ble_eq_true rfl) (Nat.le_of_ble_eq_true rfl) (Nat.le_of_ble_eq_true rfl) (Nat.le_of_ble_eq_true rfl) (Nat.le_of_ble_eq_true rfl) (Nat.le_of_ble_eq_true rfl) dX3_load_52 dX3_load_55 dX3_load_56 dX3_load_58 dX3_load_61

