/-! ===== contracts of the law's own methods over its arrays ===== -/
theorem kw_94 : CkS "IcehighwayLaw" 94 yL_speed cL_speed 10 (some .int) 5 := ⟨q694, q692, q693, q0, by decide +kernel⟩
theorem kw_100 : CkS "IcehighwayLaw" 100 yL_weights cL_weights 6 (some .int) 4 := ⟨q686, q684, q685, q0, by decide +kernel⟩
theorem kw_104 : CkS "IcehighwayLaw" 104 yL_bears cL_bears 5 (some .int) 4 := ⟨q676, q674, q675, q0, by decide +kernel⟩
theorem kw_108 : CkS "IcehighwayLaw" 108 yL_ends cL_ends 11 none 3 := ⟨q735, q733, q734, q0, by decide +kernel⟩
theorem kw_112 : CkS "IcehighwayLaw" 112 yL_unloads cL_unloads 6 none 5 := ⟨q725, q723, q724, q0, by decide +kernel⟩
theorem kw_116 : CkS "IcehighwayLaw" 116 yL_why cL_why 13 (some .int) 6 := ⟨q683, q681, q682, q0, by decide +kernel⟩
theorem kw_119 : CkS "IcehighwayLaw" 119 yL_twice cL_twice 2 (some .int) 2 := ⟨q669, q667, q668, q0, by decide +kernel⟩
theorem kw_123 : CkS "IcehighwayLaw" 123 yL_minutes cL_minutes 6 (some .int) 5 := ⟨q703, q701, q702, q0, by decide +kernel⟩
theorem kw_161 : CkS "IcehighwayLaw" 161 yL_minute cL_minute 12 none 7 := ⟨q732, q730, q731, q0, by decide +kernel⟩
theorem kw_165 : CkS "IcehighwayLaw" 165 yL_part cL_part 4 (some .int) 3 := ⟨q97, q95, q96, q0, by decide +kernel⟩
theorem kw_169 : CkS "IcehighwayLaw" 169 yL_isPiece cL_isPiece 13 (some .boolean) 8 := ⟨q714, q712, q713, q0, by decide +kernel⟩
theorem kw_173 : CkS "IcehighwayLaw" 173 yL_isVehicle cL_isVehicle 16 (some .boolean) 8 := ⟨q718, q716, q717, q0, by decide +kernel⟩
theorem kw_176 : CkS "IcehighwayLaw" 176 yL_isTold cL_isTold 14 (some .boolean) 11 := ⟨q728, q726, q727, q0, by decide +kernel⟩
theorem kw_180 : CkS "IcehighwayLaw" 180 yL_isSo cL_isSo 14 (some .boolean) 8 := ⟨q657, q655, q656, q0, by decide +kernel⟩
set_option maxHeartbeats 4000000 in
set_option maxRecDepth 100000 in
theorem qL_bears (G : GX) (w0 : WD) (la : Nat → Nat) (S : LwS) (uq : Int32) (ut : Int32) (hq : vp_in uq 8) : FC G yL_bears cL_bears 5 (some .int) ({ frames := 0, cells := 0, slots := 0, locals := 0 }) [.ref (la 0), .ref (la 1), .int uq, .int ut] (jn w0 (lW G.2.2.2 la S)) (pv (.int (L_bears S uq ut)) (jn w0 (lW G.2.2.2 la S))) := by
  refine FC.go (lv := [(0, .ref (la 0)), (1, .ref (la 1)), (2, .int uq), (3, .int ut)]) (by decide) (Nat.le_of_ble_eq_true rfl) rfl (fun p e s m args below meth c A H locs ls Q hx hb hr hts hown hml hlocks hnm hK hE hI hA hl hQ => ?_)
  have hown : s.vm.findClass "IcehighwayLaw" = some m.cls := hown
  refine lv_aload_n hx hb dL_bears_0 rfl (lv_at hl 1 rfl) ?_
  refine lv_iload_n hx hb dL_bears_1 rfl (lv_at hl 2 rfl) ?_
  refine gA (k := 1) (n := 9) (q := uq.toNatClampNeg) hx hb hK hI (by decide) rfl (vp_up hq (by decide)) rfl dL_bears_2 ?_
  refine lv_iconst (v := 4) hx hb dL_bears_3 (by decide) ?_
  refine lv_irem hx hb dL_bears_4 (by decide) ?_
  refine lv_iconst (v := 2) hx hb dL_bears_5 (by decide) ?_
  refine lv_icmp_ne (tgt := 27) hx hb dL_bears_6 (by decide) (fun c1 => ?_) (fun c1 => ?_)
  · refine lv_aload_n hx hb dL_bears_27 rfl (lv_at hl 1 rfl) ?_
    refine lv_iload_n hx hb dL_bears_28 rfl (lv_at hl 2 rfl) ?_
    refine gA (k := 1) (n := 9) (q := uq.toNatClampNeg) hx hb hK hI (by decide) rfl (vp_up hq (by decide)) rfl dL_bears_29 ?_
    refine lv_iconst (v := 4) hx hb dL_bears_30 (by decide) ?_
    refine lv_idiv hx hb dL_bears_31 (by decide) ?_
    refine lv_iconst (v := 4) hx hb dL_bears_32 (by decide) ?_
    refine lv_irem hx hb dL_bears_33 (by decide) ?_
    obtain ⟨x2, ex2⟩ : ∃ z : Int32, z = ((S 1 uq.toNatClampNeg) / 4) - ((S 1 uq.toNatClampNeg) / 4) / 4 * 4 := ⟨_, rfl⟩
    rw [← ex2]
    refine lv_istore (lv' := [(4, .int x2), (0, .ref (la 0)), (1, .ref (la 1)), (2, .int uq), (3, .int ut)]) hx hb dL_bears_34 hl (by decide) rfl (fun ls hl => ?_)
    refine lv_ldc2d (v := 4585925428558828667) hx hb hown (hts _ q678) dL_bears_36 ?_
    refine lv_iload_n hx hb dL_bears_39 rfl (lv_at hl 4 rfl) ?_
    refine lv_i2d hx hb dL_bears_40 ?_
    refine lv_ldc2d (v := 4611686018427387904) hx hb hown (hts _ q405) dL_bears_41 ?_
    refine lv_ddiv hx hb dL_bears_44 (hD_nn _) ?_
    refine lv_dmul hx hb dL_bears_45 (nn_b1 (hD_nn ut)) ?_
    refine lv_iload_n hx hb dL_bears_46 rfl (lv_at hl 4 rfl) ?_
    refine lv_i2d hx hb dL_bears_47 ?_
    refine lv_ldc2d (v := 4611686018427387904) hx hb hown (hts _ q405) dL_bears_48 ?_
    refine lv_ddiv hx hb dL_bears_51 (hD_nn _) ?_
    refine lv_dmul hx hb dL_bears_52 (nn_b2 (hD_nn ut)) ?_
    refine lv_iload hx hb dL_bears_53 (lv_at hl 0 rfl) ?_
    have hJ4 : ∀ (x3 : UInt64), (x3 = if x2 = 0 then FP.dconst1 else (if x2 = 1 then (4604930618986332160 : UInt64) else (4602678819172646912 : UInt64))) → W p G.1 e ({ frames := 0, cells := 0, slots := 0, locals := 0 }) s m args below meth c H locs 0 0 Q (F0 m 77 ls [.double x3, .double (FP.dmul (FP.dmul (4585925428558828667 : UInt64) (FP.ddiv (FP.i2d ut) (4611686018427387904 : UInt64))) (FP.ddiv (FP.i2d ut) (4611686018427387904 : UInt64)))]) := by
      intro x3 ex3
      refine lv_dmul hx hb dL_bears_77 (nn_b3 (nn_b2 (hD_nn ut)) (nn_sv ex3)) ?_
      refine lv_d2i hx hb dL_bears_78 ?_
      have HE : L_bears S uq ut = FP.d2i (FP.dmul (FP.dmul (FP.dmul (4585925428558828667 : UInt64) (FP.ddiv (FP.i2d ut) (4611686018427387904 : UInt64))) (FP.ddiv (FP.i2d ut) (4611686018427387904 : UInt64))) x3) := by subst ex3 ex2; exact (if_neg c1)
      exact rt_i hx hb hr hlocks hI hA hQ ⟨by rw [HE], rfl⟩ (Nat.zero_le _) (Nat.zero_le _) dL_bears_79
    refine lv_if_ne (tgt := 62) hx hb dL_bears_55 (by decide) (fun c5 => ?_) (fun c5 => ?_)
    · refine lv_iload hx hb dL_bears_62 (lv_at hl 0 rfl) ?_
      refine lv_iconst (v := 1) hx hb dL_bears_64 (by decide) ?_
      refine lv_icmp_ne (tgt := 74) hx hb dL_bears_65 (by decide) (fun c6 => ?_) (fun c6 => ?_)
      · refine lv_ldc2d (v := 4602678819172646912) hx hb hown (hts _ q680) dL_bears_74 ?_
        exact hJ4 (4602678819172646912 : UInt64) (by exact ((if_neg c5).trans (if_neg c6)).symm)
      · refine lv_ldc2d (v := 4604930618986332160) hx hb hown (hts _ q679) dL_bears_68 ?_
        refine lv_goto (tgt := 77) hx hb dL_bears_71 (by decide) ?_
        exact hJ4 (4604930618986332160 : UInt64) (by exact ((if_neg c5).trans (if_pos c6)).symm)
    · refine lv_dconst1 hx hb dL_bears_58 ?_
      refine lv_goto (tgt := 77) hx hb dL_bears_59 (by decide) ?_
      exact hJ4 FP.dconst1 (by exact (if_pos c5).symm)
  · refine lv_aload_n hx hb dL_bears_9 rfl (lv_at hl 0 rfl) ?_
    refine lv_bipush (v := 24) hx hb dL_bears_10 (by decide) ?_
    refine lv_iload_n hx hb dL_bears_12 rfl (lv_at hl 2 rfl) ?_
    refine lv_iadd hx hb dL_bears_13 ?_
    refine gA (k := 0) (n := 57) (q := 24 + uq.toNatClampNeg) hx hb hK hI (by decide) rfl (vo_i 24 rfl hq (by decide) (by decide)) (vo_c 24 rfl hq (by decide)) dL_bears_14 ?_
    refine lv_bipush (v := 99) hx hb dL_bears_15 (by decide) ?_
    have hJ8 : ∀ (x7 : Int32), (x7 = if (S 0 (24 + uq.toNatClampNeg)) ≤ 99 then 0 else 60000) → W p G.1 e ({ frames := 0, cells := 0, slots := 0, locals := 0 }) s m args below meth c H locs 0 0 Q (F0 m 26 ls [.int x7]) := by
      intro x7 ex7
      have HE : L_bears S uq ut = x7 := by subst ex7; exact (if_pos c1)
      exact rt_i hx hb hr hlocks hI hA hQ ⟨by rw [HE], rfl⟩ (Nat.zero_le _) (Nat.zero_le _) dL_bears_26
    refine lv_icmp_le (tgt := 25) hx hb dL_bears_17 (by decide) (fun c9 => ?_) (fun c9 => ?_)
    · refine lv_iconst (v := 0) hx hb dL_bears_25 (by decide) ?_
      exact hJ8 0 (by exact (if_pos c9).symm)
    · refine lv_ldc (v := 60000) hx hb hown (hts _ q677) dL_bears_20 ?_
      refine lv_goto (tgt := 26) hx hb dL_bears_22 (by decide) ?_
      exact hJ8 60000 (by exact (if_neg c9).symm)
set_option maxHeartbeats 4000000 in
set_option maxRecDepth 100000 in
theorem qL_twice (G : GX) (w0 : WD) (la : Nat → Nat) (S : LwS) (uq : Int32) (hq : vp_in uq 8) : FC G yL_twice cL_twice 2 (some .int) ({ frames := 0, cells := 0, slots := 0, locals := 0 }) [.ref (la 0), .int uq] (jn w0 (lW G.2.2.2 la S)) (pv (.int (L_twice S uq)) (jn w0 (lW G.2.2.2 la S))) := by
  refine FC.go (lv := [(0, .ref (la 0)), (1, .int uq)]) (by decide) (Nat.le_of_ble_eq_true rfl) rfl (fun p e s m args below meth c A H locs ls Q hx hb hr hts hown hml hlocks hnm hK hE hI hA hl hQ => ?_)
  have hown : s.vm.findClass "IcehighwayLaw" = some m.cls := hown
  refine lv_iconst (v := 2) hx hb dL_twice_0 (by decide) ?_
  refine lv_aload_n hx hb dL_twice_1 rfl (lv_at hl 0 rfl) ?_
  refine lv_iload_n hx hb dL_twice_2 rfl (lv_at hl 1 rfl) ?_
  refine gA (k := 0) (n := 57) (q := uq.toNatClampNeg) hx hb hK hI (by decide) rfl (vp_up hq (by decide)) rfl dL_twice_3 ?_
  refine lv_imul hx hb dL_twice_4 ?_
  refine lv_aload_n hx hb dL_twice_5 rfl (lv_at hl 0 rfl) ?_
  refine lv_bipush (v := 8) hx hb dL_twice_6 (by decide) ?_
  refine lv_iload_n hx hb dL_twice_8 rfl (lv_at hl 1 rfl) ?_
  refine lv_iadd hx hb dL_twice_9 ?_
  refine gA (k := 0) (n := 57) (q := 8 + uq.toNatClampNeg) hx hb hK hI (by decide) rfl (vo_i 8 rfl hq (by decide) (by decide)) (vo_c 8 rfl hq (by decide)) dL_twice_10 ?_
  refine lv_iadd hx hb dL_twice_11 ?_
  have HE : L_twice S uq = (2 * (S 0 uq.toNatClampNeg)) + (S 0 (8 + uq.toNatClampNeg)) := by exact rfl
  exact rt_i hx hb hr hlocks hI hA hQ ⟨by rw [HE], rfl⟩ (Nat.zero_le _) (Nat.zero_le _) dL_twice_12
set_option maxHeartbeats 4000000 in
set_option maxRecDepth 100000 in
theorem qL_speed (G : GX) (w0 : WD) (la : Nat → Nat) (S : LwS) (uj : Int32) (uq : Int32) (hj : vp_in uj 8) (hq : vp_in uq 8) (hlm : rng (S 1 uq.toNatClampNeg / 64) 1 300) (hf : rng (S 4 (24 + uj.toNatClampNeg)) 1 300) : FC G yL_speed cL_speed 10 (some .int) ({ frames := 0, cells := 0, slots := 0, locals := 0 }) [.ref (la 1), .ref (la 2), .ref (la 4), .int uj, .int uq] (jn w0 (lW G.2.2.2 la S)) (pv (.int (L_speed S uj uq)) (jn w0 (lW G.2.2.2 la S))) := by
  refine FC.go (lv := [(0, .ref (la 1)), (1, .ref (la 2)), (2, .ref (la 4)), (3, .int uj), (4, .int uq)]) (by decide) (Nat.le_of_ble_eq_true rfl) rfl (fun p e s m args below meth c A H locs ls Q hx hb hr hts hown hml hlocks hnm hK hE hI hA hl hQ => ?_)
  have hown : s.vm.findClass "IcehighwayLaw" = some m.cls := hown
  refine lv_aload_n hx hb dL_speed_0 rfl (lv_at hl 0 rfl) ?_
  refine lv_iload hx hb dL_speed_1 (lv_at hl 4 rfl) ?_
  refine gA (k := 1) (n := 9) (q := uq.toNatClampNeg) hx hb hK hI (by decide) rfl (vp_up hq (by decide)) rfl dL_speed_3 ?_
  refine lv_bipush (v := 64) hx hb dL_speed_4 (by decide) ?_
  refine lv_idiv hx hb dL_speed_6 (by decide) ?_
  obtain ⟨x1, ex1⟩ : ∃ z : Int32, z = (S 1 uq.toNatClampNeg) / 64 := ⟨_, rfl⟩
  rw [← ex1]
  refine lv_istore (lv' := [(5, .int x1), (0, .ref (la 1)), (1, .ref (la 2)), (2, .ref (la 4)), (3, .int uj), (4, .int uq)]) hx hb dL_speed_7 hl (by decide) rfl (fun ls hl => ?_)
  refine lv_aload_n hx hb dL_speed_9 rfl (lv_at hl 3 rfl) ?_
  refine lv_bipush (v := 24) hx hb dL_speed_10 (by decide) ?_
  refine lv_iload_n hx hb dL_speed_12 rfl (lv_at hl 4 rfl) ?_
  refine lv_iadd hx hb dL_speed_13 ?_
  refine gA (k := 4) (n := 40) (q := 24 + uj.toNatClampNeg) hx hb hK hI (by decide) rfl (vo_i 24 rfl hj (by decide) (by decide)) (vo_c 24 rfl hj (by decide)) dL_speed_14 ?_
  refine lv_iload hx hb dL_speed_15 (lv_at hl 0 rfl) ?_
  have hJ3 : ∀ (x2 : Int32), (x2 = if x1 ≤ (S 4 (24 + uj.toNatClampNeg)) then x1 else (S 4 (24 + uj.toNatClampNeg))) → W p G.1 e ({ frames := 0, cells := 0, slots := 0, locals := 0 }) s m args below meth c H locs 0 0 Q (F0 m 31 ls [.int x2]) := by
    intro x2 ex2
    refine lv_istore (lv' := [(6, .int x2), (5, .int x1), (0, .ref (la 1)), (1, .ref (la 2)), (2, .ref (la 4)), (3, .int uj), (4, .int uq)]) hx hb dL_speed_31 hl (by decide) rfl (fun ls hl => ?_)
    refine lv_aload_n hx hb dL_speed_33 rfl (lv_at hl 3 rfl) ?_
    refine lv_bipush (v := 8) hx hb dL_speed_34 (by decide) ?_
    refine lv_iload hx hb dL_speed_36 (lv_at hl 6 rfl) ?_
    refine lv_iadd hx hb dL_speed_38 ?_
    refine gA (k := 2) (n := 16) (q := 8 + uq.toNatClampNeg) hx hb hK hI (by decide) rfl (vo_i 8 rfl hq (by decide) (by decide)) (vo_c 8 rfl hq (by decide)) dL_speed_39 ?_
    refine lv_istore (lv' := [(7, .int (S 2 (8 + uq.toNatClampNeg))), (6, .int x2), (5, .int x1), (0, .ref (la 1)), (1, .ref (la 2)), (2, .ref (la 4)), (3, .int uj), (4, .int uq)]) hx hb dL_speed_40 hl (by decide) rfl (fun ls hl => ?_)
    refine lv_aload_n hx hb dL_speed_42 rfl (lv_at hl 3 rfl) ?_
    refine lv_iload hx hb dL_speed_43 (lv_at hl 7 rfl) ?_
    refine gA (k := 1) (n := 9) (q := uq.toNatClampNeg) hx hb hK hI (by decide) rfl (vp_up hq (by decide)) rfl dL_speed_45 ?_
    refine lv_iconst (v := 4) hx hb dL_speed_46 (by decide) ?_
    refine lv_irem hx hb dL_speed_47 (by decide) ?_
    refine lv_iconst (v := 2) hx hb dL_speed_48 (by decide) ?_
    have hJ4 : W p G.1 e ({ frames := 0, cells := 0, slots := 0, locals := 0 }) s m args below meth c H locs 0 0 Q (F0 m 91 ls [.int (bI ((¬ (2 ≤ ((S 1 uq.toNatClampNeg) - (S 1 uq.toNatClampNeg) / 4 * 4))) ∧ ((¬ ((Op.cmpValue (FP.dcmp (FP.i2d (x2 * x2)) (FP.dmul (4635217326480398746 : UInt64) (FP.i2d (S 2 (8 + uq.toNatClampNeg))))) CmpOp.l) ≤ 0)) ∧ (¬ (0 ≤ (Op.cmpValue (FP.dcmp (FP.i2d (x2 * x2)) (FP.dmul (4637975781252163174 : UInt64) (FP.i2d (S 2 (8 + uq.toNatClampNeg))))) CmpOp.g))))))]) := by
      refine lv_istore (lv' := [(8, .int (bI ((¬ (2 ≤ ((S 1 uq.toNatClampNeg) - (S 1 uq.toNatClampNeg) / 4 * 4))) ∧ ((¬ ((Op.cmpValue (FP.dcmp (FP.i2d (x2 * x2)) (FP.dmul (4635217326480398746 : UInt64) (FP.i2d (S 2 (8 + uq.toNatClampNeg))))) CmpOp.l) ≤ 0)) ∧ (¬ (0 ≤ (Op.cmpValue (FP.dcmp (FP.i2d (x2 * x2)) (FP.dmul (4637975781252163174 : UInt64) (FP.i2d (S 2 (8 + uq.toNatClampNeg))))) CmpOp.g))))))), (7, .int (S 2 (8 + uq.toNatClampNeg))), (6, .int x2), (5, .int x1), (0, .ref (la 1)), (1, .ref (la 2)), (2, .ref (la 4)), (3, .int uj), (4, .int uq)]) hx hb dL_speed_91 hl (by decide) rfl (fun ls hl => ?_)
      refine lv_iconst (v := 0) hx hb dL_speed_93 (by decide) ?_
      refine lv_istore (lv' := [(9, .int 0), (8, .int (bI ((¬ (2 ≤ ((S 1 uq.toNatClampNeg) - (S 1 uq.toNatClampNeg) / 4 * 4))) ∧ ((¬ ((Op.cmpValue (FP.dcmp (FP.i2d (x2 * x2)) (FP.dmul (4635217326480398746 : UInt64) (FP.i2d (S 2 (8 + uq.toNatClampNeg))))) CmpOp.l) ≤ 0)) ∧ (¬ (0 ≤ (Op.cmpValue (FP.dcmp (FP.i2d (x2 * x2)) (FP.dmul (4637975781252163174 : UInt64) (FP.i2d (S 2 (8 + uq.toNatClampNeg))))) CmpOp.g))))))), (7, .int (S 2 (8 + uq.toNatClampNeg))), (6, .int x2), (5, .int x1), (0, .ref (la 1)), (1, .ref (la 2)), (2, .ref (la 4)), (3, .int uj), (4, .int uq)]) hx hb dL_speed_94 hl (by decide) rfl (fun ls hl => ?_)
      by_cases c5 : (¬ (2 ≤ ((S 1 uq.toNatClampNeg) - (S 1 uq.toNatClampNeg) / 4 * 4))) ∧ ((¬ ((Op.cmpValue (FP.dcmp (FP.i2d (x2 * x2)) (FP.dmul (4635217326480398746 : UInt64) (FP.i2d (S 2 (8 + uq.toNatClampNeg))))) CmpOp.l) ≤ 0)) ∧ (¬ (0 ≤ (Op.cmpValue (FP.dcmp (FP.i2d (x2 * x2)) (FP.dmul (4637975781252163174 : UInt64) (FP.i2d (S 2 (8 + uq.toNatClampNeg))))) CmpOp.g))))
      · rw [bI_t c5] at hl
        obtain ⟨r6, er6⟩ : ∃ z : Int32, z = L_lst (FP.dmul (4635217326480398746 : UInt64) (FP.i2d (S 2 (8 + uq.toNatClampNeg)))) 299 0 := ⟨_, rfl⟩
        have hL7 : ∀ (n : Nat) (i_ : Int32) (ls : Array Slot), i_.toInt = 299 - (n : Int) → n ≤ 299 → L_lst (FP.dmul (4635217326480398746 : UInt64) (FP.i2d (S 2 (8 + uq.toNatClampNeg)))) n i_ = r6 → lv_has ls 10 [(9, .int i_), (8, .int 1), (7, .int (S 2 (8 + uq.toNatClampNeg))), (6, .int x2), (5, .int x1), (0, .ref (la 1)), (1, .ref (la 2)), (2, .ref (la 4)), (3, .int uj), (4, .int uq)] → W p G.1 e ({ frames := 0, cells := 0, slots := 0, locals := 0 }) s m args below meth c H locs 0 0 Q (F0 m 96 ls []) := by
          intro n
          induction n with
          | zero =>
            intro i_ ls h1 h2 hr9 hl
            refine lv_iload hx hb dL_speed_96 (lv_at hl 1 rfl) ?_
            refine lv_if_eq (tgt := 128) hx hb dL_speed_98 (by decide) (fun h => absurd h (by decide)) (fun _ => ?_)
            refine lv_iload hx hb dL_speed_101 (lv_at hl 0 rfl) ?_
            refine lv_iconst (v := 1) hx hb dL_speed_103 (by decide) ?_
            refine lv_iadd hx hb dL_speed_104 ?_
            refine lv_iload hx hb dL_speed_105 (lv_at hl 0 rfl) ?_
            refine lv_iconst (v := 1) hx hb dL_speed_107 (by decide) ?_
            refine lv_iadd hx hb dL_speed_108 ?_
            refine lv_imul hx hb dL_speed_109 ?_
            refine lv_i2d hx hb dL_speed_110 ?_
            refine lv_ldc2d (v := 4635217326480398746) hx hb hown (hts _ q695) dL_speed_111 ?_
            refine lv_iload hx hb dL_speed_114 (lv_at hl 2 rfl) ?_
            refine lv_i2d hx hb dL_speed_116 ?_
            refine lv_dmul hx hb dL_speed_117 (nn_w1 _) ?_
            refine lv_dcmp hx hb dL_speed_118 ?_
            refine lv_if_gt (tgt := 128) hx hb dL_speed_119 (by decide) (fun h9 => ?_) (fun h9 => absurd (lst_stop (rng_min ex2 (by rw [ex1]; exact hlm) hf) c5.2.1 (by rw [h1]; rfl)) h9)
            have e9 : i_ = r6 := hr9
            rw [e9] at hl
            refine lv_iload hx hb dL_speed_128 (lv_at hl 1 rfl) ?_
            refine lv_if_eq (tgt := 138) hx hb dL_speed_130 (by decide) (fun h => absurd h (by decide)) (fun _ => ?_)
            refine lv_iload hx hb dL_speed_133 (lv_at hl 0 rfl) ?_
            refine lv_goto (tgt := 140) hx hb dL_speed_135 (by decide) ?_
            have HE : L_speed S uj uq = r6 := by subst er6 ex2 ex1; exact (if_pos c5)
            exact rt_i hx hb hr hlocks hI hA hQ ⟨by rw [HE], rfl⟩ (Nat.zero_le _) (Nat.zero_le _) dL_speed_140
          | succ n ih =>
            intro i_ ls h1 h2 hr9 hl
            refine lv_iload hx hb dL_speed_96 (lv_at hl 1 rfl) ?_
            refine lv_if_eq (tgt := 128) hx hb dL_speed_98 (by decide) (fun h => absurd h (by decide)) (fun _ => ?_)
            refine lv_iload hx hb dL_speed_101 (lv_at hl 0 rfl) ?_
            refine lv_iconst (v := 1) hx hb dL_speed_103 (by decide) ?_
            refine lv_iadd hx hb dL_speed_104 ?_
            refine lv_iload hx hb dL_speed_105 (lv_at hl 0 rfl) ?_
            refine lv_iconst (v := 1) hx hb dL_speed_107 (by decide) ?_
            refine lv_iadd hx hb dL_speed_108 ?_
            refine lv_imul hx hb dL_speed_109 ?_
            refine lv_i2d hx hb dL_speed_110 ?_
            refine lv_ldc2d (v := 4635217326480398746) hx hb hown (hts _ q695) dL_speed_111 ?_
            refine lv_iload hx hb dL_speed_114 (lv_at hl 2 rfl) ?_
            refine lv_i2d hx hb dL_speed_116 ?_
            refine lv_dmul hx hb dL_speed_117 (nn_w1 _) ?_
            refine lv_dcmp hx hb dL_speed_118 ?_
            refine lv_if_gt (tgt := 128) hx hb dL_speed_119 (by decide) (fun h9 => ?_) (fun h9 => ?_)
            · have e9 : i_ = r6 := by rw [← hr9]; exact (if_pos h9).symm
              rw [e9] at hl
              refine lv_iload hx hb dL_speed_128 (lv_at hl 1 rfl) ?_
              refine lv_if_eq (tgt := 138) hx hb dL_speed_130 (by decide) (fun h => absurd h (by decide)) (fun _ => ?_)
              refine lv_iload hx hb dL_speed_133 (lv_at hl 0 rfl) ?_
              refine lv_goto (tgt := 140) hx hb dL_speed_135 (by decide) ?_
              have HE : L_speed S uj uq = r6 := by subst er6 ex2 ex1; exact (if_pos c5)
              exact rt_i hx hb hr hlocks hI hA hQ ⟨by rw [HE], rfl⟩ (Nat.zero_le _) (Nat.zero_le _) dL_speed_140
            · refine lv_iinc (v := i_ + 1) (lv' := [(9, .int (i_ + 1)), (8, .int 1), (7, .int (S 2 (8 + uq.toNatClampNeg))), (6, .int x2), (5, .int x1), (0, .ref (la 1)), (1, .ref (la 2)), (2, .ref (la 4)), (3, .int uj), (4, .int uq)]) hx hb dL_speed_122 hl (k := 0) rfl rfl (by decide) rfl (fun ls hl => ?_)
              refine lv_goto (tgt := 96) hx hb dL_speed_125 (by decide) ?_
              exact ih (i_ + 1) ls (by rw [i32_inc (by omega) (by omega), h1]; omega) (by omega) (by rw [← hr9]; exact (if_neg h9).symm) (lv_sub hl [0, 1, 2, 3, 4, 5, 6, 7, 8, 9] rfl)
        exact hL7 299 0 ls (by decide) (by decide) er6.symm (lv_sub hl [0, 1, 2, 3, 4, 5, 6, 7, 8, 9] rfl)
      · rw [bI_f c5] at hl
        refine lv_iload hx hb dL_speed_96 (lv_at hl 1 rfl) ?_
        refine lv_if_eq (tgt := 128) hx hb dL_speed_98 (by decide) (fun _ => ?_) (fun h => absurd h (by decide))
        refine lv_iload hx hb dL_speed_128 (lv_at hl 1 rfl) ?_
        refine lv_if_eq (tgt := 138) hx hb dL_speed_130 (by decide) (fun _ => ?_) (fun h => absurd h (by decide))
        refine lv_iload hx hb dL_speed_138 (lv_at hl 3 rfl) ?_
        have HE : L_speed S uj uq = x2 := by subst ex2 ex1; exact (if_neg c5)
        exact rt_i hx hb hr hlocks hI hA hQ ⟨by rw [HE], rfl⟩ (Nat.zero_le _) (Nat.zero_le _) dL_speed_140
    refine lv_icmp_ge (tgt := 90) hx hb dL_speed_49 (by decide) (fun c8 => ?_) (fun c8 => ?_)
    · refine lv_iconst (v := 0) hx hb dL_speed_90 (by decide) ?_
      have eb9 : (0 : Int32) = bI ((¬ (2 ≤ ((S 1 uq.toNatClampNeg) - (S 1 uq.toNatClampNeg) / 4 * 4))) ∧ ((¬ ((Op.cmpValue (FP.dcmp (FP.i2d (x2 * x2)) (FP.dmul (4635217326480398746 : UInt64) (FP.i2d (S 2 (8 + uq.toNatClampNeg))))) CmpOp.l) ≤ 0)) ∧ (¬ (0 ≤ (Op.cmpValue (FP.dcmp (FP.i2d (x2 * x2)) (FP.dmul (4637975781252163174 : UInt64) (FP.i2d (S 2 (8 + uq.toNatClampNeg))))) CmpOp.g))))) := (bI_f (fun k => k.1 c8)).symm
      rw [eb9]
      exact hJ4
    · refine lv_iload hx hb dL_speed_52 (lv_at hl 1 rfl) ?_
      refine lv_iload hx hb dL_speed_54 (lv_at hl 1 rfl) ?_
      refine lv_imul hx hb dL_speed_56 ?_
      refine lv_i2d hx hb dL_speed_57 ?_
      refine lv_ldc2d (v := 4635217326480398746) hx hb hown (hts _ q695) dL_speed_58 ?_
      refine lv_iload hx hb dL_speed_61 (lv_at hl 0 rfl) ?_
      refine lv_i2d hx hb dL_speed_63 ?_
      refine lv_dmul hx hb dL_speed_64 (nn_w1 _) ?_
      refine lv_dcmp hx hb dL_speed_65 ?_
      refine lv_if_le (tgt := 90) hx hb dL_speed_66 (by decide) (fun c10 => ?_) (fun c10 => ?_)
      · refine lv_iconst (v := 0) hx hb dL_speed_90 (by decide) ?_
        have eb11 : (0 : Int32) = bI ((¬ (2 ≤ ((S 1 uq.toNatClampNeg) - (S 1 uq.toNatClampNeg) / 4 * 4))) ∧ ((¬ ((Op.cmpValue (FP.dcmp (FP.i2d (x2 * x2)) (FP.dmul (4635217326480398746 : UInt64) (FP.i2d (S 2 (8 + uq.toNatClampNeg))))) CmpOp.l) ≤ 0)) ∧ (¬ (0 ≤ (Op.cmpValue (FP.dcmp (FP.i2d (x2 * x2)) (FP.dmul (4637975781252163174 : UInt64) (FP.i2d (S 2 (8 + uq.toNatClampNeg))))) CmpOp.g))))) := (bI_f (fun k => (fun k => k.1 c10) k.2)).symm
        rw [eb11]
        exact hJ4
      · refine lv_iload hx hb dL_speed_69 (lv_at hl 1 rfl) ?_
        refine lv_iload hx hb dL_speed_71 (lv_at hl 1 rfl) ?_
        refine lv_imul hx hb dL_speed_73 ?_
        refine lv_i2d hx hb dL_speed_74 ?_
        refine lv_ldc2d (v := 4637975781252163174) hx hb hown (hts _ q696) dL_speed_75 ?_
        refine lv_iload hx hb dL_speed_78 (lv_at hl 0 rfl) ?_
        refine lv_i2d hx hb dL_speed_80 ?_
        refine lv_dmul hx hb dL_speed_81 (nn_w2 _) ?_
        refine lv_dcmp hx hb dL_speed_82 ?_
        refine lv_if_ge (tgt := 90) hx hb dL_speed_83 (by decide) (fun c12 => ?_) (fun c12 => ?_)
        · refine lv_iconst (v := 0) hx hb dL_speed_90 (by decide) ?_
          have eb13 : (0 : Int32) = bI ((¬ (2 ≤ ((S 1 uq.toNatClampNeg) - (S 1 uq.toNatClampNeg) / 4 * 4))) ∧ ((¬ ((Op.cmpValue (FP.dcmp (FP.i2d (x2 * x2)) (FP.dmul (4635217326480398746 : UInt64) (FP.i2d (S 2 (8 + uq.toNatClampNeg))))) CmpOp.l) ≤ 0)) ∧ (¬ (0 ≤ (Op.cmpValue (FP.dcmp (FP.i2d (x2 * x2)) (FP.dmul (4637975781252163174 : UInt64) (FP.i2d (S 2 (8 + uq.toNatClampNeg))))) CmpOp.g))))) := (bI_f (fun k => (fun k => (fun k => k c12) k.2) k.2)).symm
          rw [eb13]
          exact hJ4
        · refine lv_iconst (v := 1) hx hb dL_speed_86 (by decide) ?_
          refine lv_goto (tgt := 91) hx hb dL_speed_87 (by decide) ?_
          have eb14 : (1 : Int32) = bI ((¬ (2 ≤ ((S 1 uq.toNatClampNeg) - (S 1 uq.toNatClampNeg) / 4 * 4))) ∧ ((¬ ((Op.cmpValue (FP.dcmp (FP.i2d (x2 * x2)) (FP.dmul (4635217326480398746 : UInt64) (FP.i2d (S 2 (8 + uq.toNatClampNeg))))) CmpOp.l) ≤ 0)) ∧ (¬ (0 ≤ (Op.cmpValue (FP.dcmp (FP.i2d (x2 * x2)) (FP.dmul (4637975781252163174 : UInt64) (FP.i2d (S 2 (8 + uq.toNatClampNeg))))) CmpOp.g))))) := (bI_t ⟨c8, ⟨c10, c12⟩⟩).symm
          rw [eb14]
          exact hJ4
  refine lv_icmp_ge (tgt := 29) hx hb dL_speed_17 (by decide) (fun c15 => ?_) (fun c15 => ?_)
  · refine lv_iload hx hb dL_speed_29 (lv_at hl 0 rfl) ?_
    exact hJ3 x1 (by exact (if_pos c15).symm)
  · refine lv_aload_n hx hb dL_speed_20 rfl (lv_at hl 3 rfl) ?_
    refine lv_bipush (v := 24) hx hb dL_speed_21 (by decide) ?_
    refine lv_iload_n hx hb dL_speed_23 rfl (lv_at hl 4 rfl) ?_
    refine lv_iadd hx hb dL_speed_24 ?_
    refine gA (k := 4) (n := 40) (q := 24 + uj.toNatClampNeg) hx hb hK hI (by decide) rfl (vo_i 24 rfl hj (by decide) (by decide)) (vo_c 24 rfl hj (by decide)) dL_speed_25 ?_
    refine lv_goto (tgt := 31) hx hb dL_speed_26 (by decide) ?_
    exact hJ3 (S 4 (24 + uj.toNatClampNeg)) (by exact (if_neg c15).symm)
set_option maxHeartbeats 4000000 in
set_option maxRecDepth 100000 in
theorem qL_minutes (G : GX) (w0 : WD) (la : Nat → Nat) (S : LwS) (uj : Int32) (uq : Int32) (hj : vp_in uj 8) (hq : vp_in uq 8) (hlm : rng (S 1 uq.toNatClampNeg / 64) 1 300) (hf : rng (S 4 (24 + uj.toNatClampNeg)) 1 300) (hs : ¬ 6 * L_speed S uj uq = 0) : FC G yL_minutes cL_minutes 6 (some .int) ({ frames := 1, cells := 0, slots := 0, locals := 29 }) [.ref (la 1), .ref (la 2), .ref (la 4), .int uj, .int uq] (jn w0 (lW G.2.2.2 la S)) (pv (.int (L_minutes S uj uq)) (jn w0 (lW G.2.2.2 la S))) := by
  refine FC.go (lv := [(0, .ref (la 1)), (1, .ref (la 2)), (2, .ref (la 4)), (3, .int uj), (4, .int uq)]) (by decide) (Nat.le_of_ble_eq_true rfl) rfl (fun p e s m args below meth c A H locs ls Q hx hb hr hts hown hml hlocks hnm hK hE hI hA hl hQ => ?_)
  have hown : s.vm.findClass "IcehighwayLaw" = some m.cls := hown
  refine lv_bipush (v := 6) hx hb dL_minutes_0 (by decide) ?_
  refine lv_aload_n hx hb dL_minutes_2 rfl (lv_at hl 0 rfl) ?_
  refine lv_aload_n hx hb dL_minutes_3 rfl (lv_at hl 1 rfl) ?_
  refine lv_aload_n hx hb dL_minutes_4 rfl (lv_at hl 2 rfl) ?_
  refine lv_iload_n hx hb dL_minutes_5 rfl (lv_at hl 3 rfl) ?_
  refine lv_iload hx hb dL_minutes_6 (lv_at hl 4 rfl) ?_
  refine cSv (rest := [.int 6]) hx hb hml hts hown hK hE hI (qL_speed G w0 la S uj uq (vp_up hj (by decide)) (vp_up hq (by decide)) hlm hf) kw_94 ⟨Nat.le_of_ble_eq_true rfl, Nat.le_of_ble_eq_true rfl⟩ rfl rfl hl.1 rfl (Nat.le_of_ble_eq_true rfl) dL_minutes_8 ⟨Nat.zero_le _, Nat.zero_le _⟩ (fun H locs hI => ?_)
  refine lv_imul hx hb dL_minutes_11 ?_
  refine lv_istore (lv' := [(5, .int (6 * (L_speed S uj uq))), (0, .ref (la 1)), (1, .ref (la 2)), (2, .ref (la 4)), (3, .int uj), (4, .int uq)]) hx hb dL_minutes_12 hl (by decide) rfl (fun ls hl => ?_)
  refine lv_aload_n hx hb dL_minutes_14 rfl (lv_at hl 2 rfl) ?_
  refine lv_iload hx hb dL_minutes_15 (lv_at hl 5 rfl) ?_
  refine gA (k := 2) (n := 16) (q := uq.toNatClampNeg) hx hb hK hI (by decide) rfl (vp_up hq (by decide)) rfl dL_minutes_17 ?_
  refine lv_iload hx hb dL_minutes_18 (lv_at hl 0 rfl) ?_
  refine lv_idiv hx hb dL_minutes_20 hs ?_
  refine lv_aload_n hx hb dL_minutes_21 rfl (lv_at hl 2 rfl) ?_
  refine lv_iload hx hb dL_minutes_22 (lv_at hl 5 rfl) ?_
  refine gA (k := 2) (n := 16) (q := uq.toNatClampNeg) hx hb hK hI (by decide) rfl (vp_up hq (by decide)) rfl dL_minutes_24 ?_
  refine lv_iload hx hb dL_minutes_25 (lv_at hl 0 rfl) ?_
  refine lv_irem hx hb dL_minutes_27 hs ?_
  have hJ1 : W p G.1 e ({ frames := 1, cells := 0, slots := 0, locals := 29 }) s m args below meth c H locs 0 0 Q (F0 m 36 ls [.int (bI (¬ (((S 2 uq.toNatClampNeg) - (S 2 uq.toNatClampNeg) / (6 * (L_speed S uj uq)) * (6 * (L_speed S uj uq))) ≤ 0))), .int ((S 2 uq.toNatClampNeg) / (6 * (L_speed S uj uq)))]) := by
    refine lv_iadd hx hb dL_minutes_36 ?_
    have HE : L_minutes S uj uq = ((S 2 uq.toNatClampNeg) / (6 * (L_speed S uj uq))) + (bI (¬ (((S 2 uq.toNatClampNeg) - (S 2 uq.toNatClampNeg) / (6 * (L_speed S uj uq)) * (6 * (L_speed S uj uq))) ≤ 0))) := by exact rfl
    exact rt_i hx hb hr hlocks hI hA hQ ⟨by rw [HE], rfl⟩ (Nat.zero_le _) (Nat.zero_le _) dL_minutes_37
  refine lv_if_le (tgt := 35) hx hb dL_minutes_28 (by decide) (fun c2 => ?_) (fun c2 => ?_)
  · refine lv_iconst (v := 0) hx hb dL_minutes_35 (by decide) ?_
    have eb3 : (0 : Int32) = bI (¬ (((S 2 uq.toNatClampNeg) - (S 2 uq.toNatClampNeg) / (6 * (L_speed S uj uq)) * (6 * (L_speed S uj uq))) ≤ 0)) := (bI_f (fun k => k c2)).symm
    rw [eb3]
    exact hJ1
  · refine lv_iconst (v := 1) hx hb dL_minutes_31 (by decide) ?_
    refine lv_goto (tgt := 36) hx hb dL_minutes_32 (by decide) ?_
    have eb4 : (1 : Int32) = bI (¬ (((S 2 uq.toNatClampNeg) - (S 2 uq.toNatClampNeg) / (6 * (L_speed S uj uq)) * (6 * (L_speed S uj uq))) ≤ 0)) := (bI_t c2).symm
    rw [eb4]
    exact hJ1
set_option maxHeartbeats 4000000 in
set_option maxRecDepth 100000 in
theorem qL_weights (G : GX) (w0 : WD) (la : Nat → Nat) (S : LwS) (uq : Int32) {nv : Nat} (hn4 : S 6 4 = nI nv) (hnv : nv ≤ 8) : FC G yL_weights cL_weights 6 (some .int) ({ frames := 0, cells := 0, slots := 0, locals := 0 }) [.ref (la 3), .ref (la 4), .ref (la 6), .int uq] (jn w0 (lW G.2.2.2 la S)) (pv (.int (L_weights S uq)) (jn w0 (lW G.2.2.2 la S))) := by
  refine FC.go (lv := [(0, .ref (la 3)), (1, .ref (la 4)), (2, .ref (la 6)), (3, .int uq)]) (by decide) (Nat.le_of_ble_eq_true rfl) rfl (fun p e s m args below meth c A H locs ls Q hx hb hr hts hown hml hlocks hnm hK hE hI hA hl hQ => ?_)
  have hown : s.vm.findClass "IcehighwayLaw" = some m.cls := hown
  refine lv_iconst (v := 0) hx hb dL_weights_0 (by decide) ?_
  refine lv_istore (lv' := [(4, .int 0), (0, .ref (la 3)), (1, .ref (la 4)), (2, .ref (la 6)), (3, .int uq)]) hx hb dL_weights_1 hl (by decide) rfl (fun ls hl => ?_)
  refine lv_iconst (v := 0) hx hb dL_weights_3 (by decide) ?_
  refine lv_istore (lv' := [(5, .int 0), (4, .int 0), (0, .ref (la 3)), (1, .ref (la 4)), (2, .ref (la 6)), (3, .int uq)]) hx hb dL_weights_4 hl (by decide) rfl (fun ls hl => ?_)
  have hL2 : ∀ (k n : Nat), n + k = nv → ∀ (i_ : Int32) (a1 : Int32) (H : Heap) (locs : List Loc) (ls : Array Slot), (i_ = nI n) → (a1 = L_weights_f S uq n) → (fI G.2.2.1 A s.heap (jn w0 (lW G.2.2.2 la S)) H locs) → (lv_has ls 6 [(5, .int i_), (4, .int a1), (0, .ref (la 3)), (1, .ref (la 4)), (2, .ref (la 6)), (3, .int uq)]) → W p G.1 e ({ frames := 0, cells := 0, slots := 0, locals := 0 }) s m args below meth c H locs 0 0 Q (F0 m 6 ls []) := by
    intro k
    induction k with
    | zero =>
      intro n hnk i_ a1 H locs ls ei ea1 hI hl
      subst ei
      refine lv_iload hx hb dL_weights_6 (lv_at hl 0 rfl) ?_
      refine lv_aload_n hx hb dL_weights_8 rfl (lv_at hl 4 rfl) ?_
      refine lv_iconst (v := 4) hx hb dL_weights_9 (by decide) ?_
      refine gA (k := 6) (n := 5) (q := 4) hx hb hK hI (by decide) rfl (by unfold vp_in; decide) (by decide) dL_weights_10 ?_
      refine lv_icmp_ge (tgt := 66) hx hb dL_weights_11 (by decide) (fun _ => ?_) (fun h => absurd (by rw [hn4]; exact nI_le (by omega) (by omega)) h)
      have hn9 : n = (S 6 4).toNatClampNeg := by rw [hn4, nI_clamp (by omega)]; omega
      rw [hn9] at ea1
      have hl : lv_has ls 6 [(4, .int a1), (0, .ref (la 3)), (1, .ref (la 4)), (2, .ref (la 6)), (3, .int uq)] := lv_sub hl [1, 2, 3, 4, 5] rfl
      refine lv_iload hx hb dL_weights_66 (lv_at hl 0 rfl) ?_
      have HE : L_weights S uq = a1 := by subst ea1; exact rfl
      exact rt_i hx hb hr hlocks hI hA hQ ⟨by rw [HE], rfl⟩ (Nat.zero_le _) (Nat.zero_le _) dL_weights_68
    | succ k ih =>
      intro n hnk i_ a1 H locs ls ei ea1 hI hl
      subst ei
      refine lv_iload hx hb dL_weights_6 (lv_at hl 0 rfl) ?_
      refine lv_aload_n hx hb dL_weights_8 rfl (lv_at hl 4 rfl) ?_
      refine lv_iconst (v := 4) hx hb dL_weights_9 (by decide) ?_
      refine gA (k := 6) (n := 5) (q := 4) hx hb hK hI (by decide) rfl (by unfold vp_in; decide) (by decide) dL_weights_10 ?_
      refine lv_icmp_ge (tgt := 66) hx hb dL_weights_11 (by decide) (fun h => absurd h (by rw [hn4]; exact nI_ge (by omega) (by omega))) (fun _ => ?_)
      refine lv_iload hx hb dL_weights_14 (lv_at hl 1 rfl) ?_
      refine lv_aload_n hx hb dL_weights_16 rfl (lv_at hl 2 rfl) ?_
      refine lv_iload hx hb dL_weights_17 (lv_at hl 0 rfl) ?_
      refine gA (k := 3) (n := 8) (q := n) hx hb hK hI (by decide) rfl (vp_in_nI (Nat.lt_of_lt_of_le (show n < 8 by omega) (by decide)) (by decide)) (nI_clamp (Nat.lt_of_lt_of_le (show n < 8 by omega) (by decide))) dL_weights_19 ?_
      refine lv_bipush (v := 8) hx hb dL_weights_20 (by decide) ?_
      refine lv_irem hx hb dL_weights_22 (by decide) ?_
      refine lv_iconst (v := 1) hx hb dL_weights_23 (by decide) ?_
      have hJ4 : ∀ (x3 : Int32), (x3 = if ((S 3 n) - (S 3 n) / 8 * 8) = 1 then (if (((S 3 n) / 8) - ((S 3 n) / 8) / 16 * 16) = uq then ((S 4 n) + (S 4 (8 + n))) else 0) else 0) → W p G.1 e ({ frames := 0, cells := 0, slots := 0, locals := 0 }) s m args below meth c H locs 0 0 Q (F0 m 57 ls [.int x3, .int a1]) := by
        intro x3 ex3
        refine lv_iadd hx hb dL_weights_57 ?_
        refine lv_istore (lv' := [(4, .int (a1 + x3)), (5, .int (nI n)), (0, .ref (la 3)), (1, .ref (la 4)), (2, .ref (la 6)), (3, .int uq)]) hx hb dL_weights_58 hl (by decide) rfl (fun ls hl => ?_)
        obtain ⟨x5, ex5⟩ : ∃ z : Int32, z = (nI n) + 1 := ⟨_, rfl⟩
        refine lv_iinc (v := x5) (lv' := [(5, .int x5), (4, .int (a1 + x3)), (0, .ref (la 3)), (1, .ref (la 4)), (2, .ref (la 6)), (3, .int uq)]) hx hb dL_weights_60 hl (k := 1) rfl (by rw [ex5]; rfl) (by decide) rfl (fun ls hl => ?_)
        refine lv_goto (tgt := 6) hx hb dL_weights_63 (by decide) ?_
        have HE : L_weights_s S uq n a1 = a1 + x3 := by subst ex5 ex3; exact rfl
        exact ih (n + 1) (by omega) x5 (a1 + x3) H locs ls (by rw [ex5]; exact nI_1 n) (by show _ = L_weights_s S uq n (L_weights_f S uq n); rw [← ea1]; exact HE.symm) hI (lv_sub hl [0, 1, 2, 3, 4, 5] rfl)
      refine lv_icmp_ne (tgt := 56) hx hb dL_weights_24 (by decide) (fun c6 => ?_) (fun c6 => ?_)
      · refine lv_iconst (v := 0) hx hb dL_weights_56 (by decide) ?_
        exact hJ4 0 (by exact (if_neg c6).symm)
      · refine lv_aload_n hx hb dL_weights_27 rfl (lv_at hl 2 rfl) ?_
        refine lv_iload hx hb dL_weights_28 (lv_at hl 0 rfl) ?_
        refine gA (k := 3) (n := 8) (q := n) hx hb hK hI (by decide) rfl (vp_in_nI (Nat.lt_of_lt_of_le (show n < 8 by omega) (by decide)) (by decide)) (nI_clamp (Nat.lt_of_lt_of_le (show n < 8 by omega) (by decide))) dL_weights_30 ?_
        refine lv_bipush (v := 8) hx hb dL_weights_31 (by decide) ?_
        refine lv_idiv hx hb dL_weights_33 (by decide) ?_
        refine lv_bipush (v := 16) hx hb dL_weights_34 (by decide) ?_
        refine lv_irem hx hb dL_weights_36 (by decide) ?_
        refine lv_iload_n hx hb dL_weights_37 rfl (lv_at hl 5 rfl) ?_
        refine lv_icmp_ne (tgt := 56) hx hb dL_weights_38 (by decide) (fun c7 => ?_) (fun c7 => ?_)
        · refine lv_iconst (v := 0) hx hb dL_weights_56 (by decide) ?_
          exact hJ4 0 (by exact ((if_pos c6).trans (if_neg c7)).symm)
        · refine lv_aload_n hx hb dL_weights_41 rfl (lv_at hl 3 rfl) ?_
          refine lv_iload hx hb dL_weights_42 (lv_at hl 0 rfl) ?_
          refine gA (k := 4) (n := 40) (q := n) hx hb hK hI (by decide) rfl (vp_in_nI (Nat.lt_of_lt_of_le (show n < 8 by omega) (by decide)) (by decide)) (nI_clamp (Nat.lt_of_lt_of_le (show n < 8 by omega) (by decide))) dL_weights_44 ?_
          refine lv_aload_n hx hb dL_weights_45 rfl (lv_at hl 3 rfl) ?_
          refine lv_bipush (v := 8) hx hb dL_weights_46 (by decide) ?_
          refine lv_iload hx hb dL_weights_48 (lv_at hl 0 rfl) ?_
          refine lv_iadd hx hb dL_weights_50 ?_
          refine gA (k := 4) (n := 40) (q := 8 + n) hx hb hK hI (by decide) rfl (vo_n 8 rfl (show n < 8 by omega) (by decide) (by decide)) (vo_nc 8 rfl (show n < 8 by omega) (by decide)) dL_weights_51 ?_
          refine lv_iadd hx hb dL_weights_52 ?_
          refine lv_goto (tgt := 57) hx hb dL_weights_53 (by decide) ?_
          exact hJ4 ((S 4 n) + (S 4 (8 + n))) (by exact ((if_pos c6).trans (if_pos c7)).symm)
  exact hL2 nv 0 (by omega) 0 0 H locs ls nI_0.symm rfl hI (lv_sub hl [0, 1, 2, 3, 4, 5] rfl)
set_option maxHeartbeats 4000000 in
set_option maxRecDepth 100000 in
theorem qL_why (G : GX) (w0 : WD) (la : Nat → Nat) (S : LwS) (uj : Int32) {nv : Nat} (hj : vp_in uj 8) (hq : vp_in (L_pc S uj) 8) (hw : vp_in ((40 + (8 * L_way S uj)) + L_pc S uj) 57) (hn4 : S 6 4 = nI nv) (hnv : nv ≤ 8) : FC G yL_why cL_why 13 (some .int) ({ frames := 1, cells := 0, slots := 0, locals := 25 }) [.ref (la 0), .ref (la 1), .ref (la 3), .ref (la 4), .ref (la 6), .int uj] (jn w0 (lW G.2.2.2 la S)) (pv (.int (L_why S uj)) (jn w0 (lW G.2.2.2 la S))) := by
  refine FC.go (lv := [(0, .ref (la 0)), (1, .ref (la 1)), (2, .ref (la 3)), (3, .ref (la 4)), (4, .ref (la 6)), (5, .int uj)]) (by decide) (Nat.le_of_ble_eq_true rfl) rfl (fun p e s m args below meth c A H locs ls Q hx hb hr hts hown hml hlocks hnm hK hE hI hA hl hQ => ?_)
  have hown : s.vm.findClass "IcehighwayLaw" = some m.cls := hown
  refine lv_aload_n hx hb dL_why_0 rfl (lv_at hl 2 rfl) ?_
  refine lv_iload hx hb dL_why_1 (lv_at hl 5 rfl) ?_
  refine gA (k := 3) (n := 8) (q := uj.toNatClampNeg) hx hb hK hI (by decide) rfl (vp_up hj (by decide)) rfl dL_why_3 ?_
  refine lv_bipush (v := 8) hx hb dL_why_4 (by decide) ?_
  refine lv_irem hx hb dL_why_6 (by decide) ?_
  refine lv_iconst (v := 2) hx hb dL_why_7 (by decide) ?_
  refine lv_icmp_eq (tgt := 13) hx hb dL_why_8 (by decide) (fun c1 => ?_) (fun c1 => ?_)
  · refine lv_aload_n hx hb dL_why_13 rfl (lv_at hl 2 rfl) ?_
    refine lv_iload hx hb dL_why_14 (lv_at hl 5 rfl) ?_
    refine gA (k := 3) (n := 8) (q := uj.toNatClampNeg) hx hb hK hI (by decide) rfl (vp_up hj (by decide)) rfl dL_why_16 ?_
    refine lv_sipush (v := 128) hx hb dL_why_17 (by decide) ?_
    refine lv_idiv hx hb dL_why_20 (by decide) ?_
    refine lv_iconst (v := 2) hx hb dL_why_21 (by decide) ?_
    refine lv_irem hx hb dL_why_22 (by decide) ?_
    obtain ⟨x2, ex2⟩ : ∃ z : Int32, z = ((S 3 uj.toNatClampNeg) / 128) - ((S 3 uj.toNatClampNeg) / 128) / 2 * 2 := ⟨_, rfl⟩
    rw [← ex2]
    refine lv_istore (lv' := [(6, .int x2), (0, .ref (la 0)), (1, .ref (la 1)), (2, .ref (la 3)), (3, .ref (la 4)), (4, .ref (la 6)), (5, .int uj)]) hx hb dL_why_23 hl (by decide) rfl (fun ls hl => ?_)
    refine lv_aload_n hx hb dL_why_25 rfl (lv_at hl 3 rfl) ?_
    refine lv_iload hx hb dL_why_26 (lv_at hl 6 rfl) ?_
    refine gA (k := 3) (n := 8) (q := uj.toNatClampNeg) hx hb hK hI (by decide) rfl (vp_up hj (by decide)) rfl dL_why_28 ?_
    refine lv_bipush (v := 8) hx hb dL_why_29 (by decide) ?_
    refine lv_idiv hx hb dL_why_31 (by decide) ?_
    refine lv_bipush (v := 16) hx hb dL_why_32 (by decide) ?_
    refine lv_irem hx hb dL_why_34 (by decide) ?_
    refine lv_iconst (v := 1) hx hb dL_why_35 (by decide) ?_
    refine lv_isub hx hb dL_why_36 ?_
    refine lv_iload hx hb dL_why_37 (lv_at hl 0 rfl) ?_
    refine lv_iadd hx hb dL_why_39 ?_
    obtain ⟨x3, ex3⟩ : ∃ z : Int32, z = ((((S 3 uj.toNatClampNeg) / 8) - ((S 3 uj.toNatClampNeg) / 8) / 16 * 16) - 1) + x2 := ⟨_, rfl⟩
    rw [← ex3]
    refine lv_istore (lv' := [(7, .int x3), (6, .int x2), (0, .ref (la 0)), (1, .ref (la 1)), (2, .ref (la 3)), (3, .ref (la 4)), (4, .ref (la 6)), (5, .int uj)]) hx hb dL_why_40 hl (by decide) rfl (fun ls hl => ?_)
    refine lv_aload_n hx hb dL_why_42 rfl (lv_at hl 3 rfl) ?_
    refine lv_iload hx hb dL_why_43 (lv_at hl 0 rfl) ?_
    refine gA (k := 1) (n := 9) (q := x3.toNatClampNeg) hx hb hK hI (by decide) rfl (vp_up (by subst ex3 ex2; exact hq) (by decide)) rfl dL_why_45 ?_
    refine lv_bipush (v := 16) hx hb dL_why_46 (by decide) ?_
    refine lv_idiv hx hb dL_why_48 (by decide) ?_
    refine lv_iconst (v := 4) hx hb dL_why_49 (by decide) ?_
    refine lv_irem hx hb dL_why_50 (by decide) ?_
    obtain ⟨x4, ex4⟩ : ∃ z : Int32, z = ((S 1 x3.toNatClampNeg) / 16) - ((S 1 x3.toNatClampNeg) / 16) / 4 * 4 := ⟨_, rfl⟩
    rw [← ex4]
    refine lv_istore (lv' := [(8, .int x4), (7, .int x3), (6, .int x2), (0, .ref (la 0)), (1, .ref (la 1)), (2, .ref (la 3)), (3, .ref (la 4)), (4, .ref (la 6)), (5, .int uj)]) hx hb dL_why_51 hl (by decide) rfl (fun ls hl => ?_)
    refine lv_aload_n hx hb dL_why_53 rfl (lv_at hl 6 rfl) ?_
    refine lv_iload hx hb dL_why_54 (lv_at hl 8 rfl) ?_
    refine gA (k := 4) (n := 40) (q := uj.toNatClampNeg) hx hb hK hI (by decide) rfl (vp_up hj (by decide)) rfl dL_why_56 ?_
    refine lv_aload_n hx hb dL_why_57 rfl (lv_at hl 6 rfl) ?_
    refine lv_bipush (v := 8) hx hb dL_why_58 (by decide) ?_
    refine lv_iload hx hb dL_why_60 (lv_at hl 8 rfl) ?_
    refine lv_iadd hx hb dL_why_62 ?_
    refine gA (k := 4) (n := 40) (q := 8 + uj.toNatClampNeg) hx hb hK hI (by decide) rfl (vo_i 8 rfl hj (by decide) (by decide)) (vo_c 8 rfl hj (by decide)) dL_why_63 ?_
    refine lv_iadd hx hb dL_why_64 ?_
    obtain ⟨x5, ex5⟩ : ∃ z : Int32, z = (S 4 uj.toNatClampNeg) + (S 4 (8 + uj.toNatClampNeg)) := ⟨_, rfl⟩
    rw [← ex5]
    refine lv_istore (lv' := [(9, .int x5), (8, .int x4), (7, .int x3), (6, .int x2), (0, .ref (la 0)), (1, .ref (la 1)), (2, .ref (la 3)), (3, .ref (la 4)), (4, .ref (la 6)), (5, .int uj)]) hx hb dL_why_65 hl (by decide) rfl (fun ls hl => ?_)
    refine lv_aload_n hx hb dL_why_67 rfl (lv_at hl 5 rfl) ?_
    refine lv_iload hx hb dL_why_68 (lv_at hl 2 rfl) ?_
    refine gA (k := 1) (n := 9) (q := x3.toNatClampNeg) hx hb hK hI (by decide) rfl (vp_up (by subst ex3 ex2; exact hq) (by decide)) rfl dL_why_70 ?_
    refine lv_iconst (v := 4) hx hb dL_why_71 (by decide) ?_
    refine lv_irem hx hb dL_why_72 (by decide) ?_
    obtain ⟨x6, ex6⟩ : ∃ z : Int32, z = (S 1 x3.toNatClampNeg) - (S 1 x3.toNatClampNeg) / 4 * 4 := ⟨_, rfl⟩
    rw [← ex6]
    refine lv_istore (lv' := [(10, .int x6), (9, .int x5), (8, .int x4), (7, .int x3), (6, .int x2), (0, .ref (la 0)), (1, .ref (la 1)), (2, .ref (la 3)), (3, .ref (la 4)), (4, .ref (la 6)), (5, .int uj)]) hx hb dL_why_73 hl (by decide) rfl (fun ls hl => ?_)
    refine lv_iload hx hb dL_why_75 (lv_at hl 2 rfl) ?_
    refine lv_if_ne (tgt := 82) hx hb dL_why_77 (by decide) (fun c7 => ?_) (fun c7 => ?_)
    · refine lv_iload hx hb dL_why_82 (lv_at hl 0 rfl) ?_
      refine lv_iconst (v := 2) hx hb dL_why_84 (by decide) ?_
      refine lv_icmp_ge (tgt := 125) hx hb dL_why_85 (by decide) (fun c8 => ?_) (fun c8 => ?_)
      · refine lv_iload hx hb dL_why_125 (lv_at hl 2 rfl) ?_
        refine lv_iconst (v := 1) hx hb dL_why_127 (by decide) ?_
        refine lv_icmp_ne (tgt := 139) hx hb dL_why_128 (by decide) (fun c9 => ?_) (fun c9 => ?_)
        · refine lv_aload hx hb dL_why_139 (lv_at hl 9 rfl) ?_
          refine lv_iconst (v := 0) hx hb dL_why_141 (by decide) ?_
          refine gA (k := 6) (n := 5) (q := 0) hx hb hK hI (by decide) rfl (by unfold vp_in; decide) (by decide) dL_why_142 ?_
          refine lv_aload_n hx hb dL_why_143 rfl (lv_at hl 5 rfl) ?_
          refine lv_bipush (v := 40) hx hb dL_why_144 (by decide) ?_
          refine lv_bipush (v := 8) hx hb dL_why_146 (by decide) ?_
          refine lv_iload hx hb dL_why_148 (lv_at hl 4 rfl) ?_
          refine lv_imul hx hb dL_why_150 ?_
          refine lv_iadd hx hb dL_why_151 ?_
          refine lv_iload hx hb dL_why_152 (lv_at hl 3 rfl) ?_
          refine lv_iadd hx hb dL_why_154 ?_
          refine gA (k := 0) (n := 57) (q := ((40 + (8 * x2)) + x3).toNatClampNeg) hx hb hK hI (by decide) rfl (by subst ex6 ex5 ex4 ex3 ex2; exact hw) rfl dL_why_155 ?_
          refine lv_isub hx hb dL_why_156 ?_
          refine lv_aload hx hb dL_why_157 (lv_at hl 9 rfl) ?_
          refine lv_iconst (v := 2) hx hb dL_why_159 (by decide) ?_
          refine gA (k := 6) (n := 5) (q := 2) hx hb hK hI (by decide) rfl (by unfold vp_in; decide) (by decide) dL_why_160 ?_
          refine lv_icmp_ge (tgt := 184) hx hb dL_why_161 (by decide) (fun c10 => ?_) (fun c10 => ?_)
          · refine lv_iconst (v := 0) hx hb dL_why_184 (by decide) ?_
            refine lv_istore (lv' := [(11, .int 0), (10, .int x6), (9, .int x5), (8, .int x4), (7, .int x3), (6, .int x2), (0, .ref (la 0)), (1, .ref (la 1)), (2, .ref (la 3)), (3, .ref (la 4)), (4, .ref (la 6)), (5, .int uj)]) hx hb dL_why_185 hl (by decide) rfl (fun ls hl => ?_)
            refine lv_iconst (v := 0) hx hb dL_why_187 (by decide) ?_
            refine lv_istore (lv' := [(12, .int 0), (11, .int 0), (10, .int x6), (9, .int x5), (8, .int x4), (7, .int x3), (6, .int x2), (0, .ref (la 0)), (1, .ref (la 1)), (2, .ref (la 3)), (3, .ref (la 4)), (4, .ref (la 6)), (5, .int uj)]) hx hb dL_why_188 hl (by decide) rfl (fun ls hl => ?_)
            have hL12 : ∀ (k n : Nat), n + k = nv → ∀ (i_ : Int32) (a11 : Int32) (H : Heap) (locs : List Loc) (ls : Array Slot), (i_ = nI n) → (a11 = L_isMet_f S x2 x3 n) → (fI G.2.2.1 A s.heap (jn w0 (lW G.2.2.2 la S)) H locs) → (lv_has ls 13 [(12, .int i_), (11, .int a11), (10, .int x6), (9, .int x5), (8, .int x4), (7, .int x3), (6, .int x2), (0, .ref (la 0)), (1, .ref (la 1)), (2, .ref (la 3)), (3, .ref (la 4)), (4, .ref (la 6)), (5, .int uj)]) → W p G.1 e ({ frames := 1, cells := 0, slots := 0, locals := 25 }) s m args below meth c H locs 0 0 Q (F0 m 190 ls []) := by
              intro k
              induction k with
              | zero =>
                intro n hnk i_ a11 H locs ls ei ea11 hI hl
                subst ei
                refine lv_iload hx hb dL_why_190 (lv_at hl 0 rfl) ?_
                refine lv_aload hx hb dL_why_192 (lv_at hl 11 rfl) ?_
                refine lv_iconst (v := 4) hx hb dL_why_194 (by decide) ?_
                refine gA (k := 6) (n := 5) (q := 4) hx hb hK hI (by decide) rfl (by unfold vp_in; decide) (by decide) dL_why_195 ?_
                refine lv_icmp_ge (tgt := 258) hx hb dL_why_196 (by decide) (fun _ => ?_) (fun h => absurd (by rw [hn4]; exact nI_le (by omega) (by omega)) h)
                have hn9 : n = (S 6 4).toNatClampNeg := by rw [hn4, nI_clamp (by omega)]; omega
                rw [hn9] at ea11
                have hl : lv_has ls 13 [(11, .int a11), (10, .int x6), (9, .int x5), (8, .int x4), (7, .int x3), (6, .int x2), (0, .ref (la 0)), (1, .ref (la 1)), (2, .ref (la 3)), (3, .ref (la 4)), (4, .ref (la 6)), (5, .int uj)] := lv_sub hl [1, 2, 3, 4, 5, 6, 7, 8, 9, 10, 11, 12] rfl
                refine lv_iload hx hb dL_why_258 (lv_at hl 1 rfl) ?_
                have hJ14 : ∀ (x13 : Int32) (H : Heap) (locs : List Loc), (x13 = if x6 ≤ 0 then (if (x5 + (L_weights S x3)) ≤ (L_bears S x3 (S 0 (32 + x3.toNatClampNeg))) then 0 else 6) else (if a11 = 0 then (if (x5 + (L_weights S x3)) ≤ (L_bears S x3 (S 0 (32 + x3.toNatClampNeg))) then 0 else 6) else 5)) → (fI G.2.2.1 A s.heap (jn w0 (lW G.2.2.2 la S)) H locs) → W p G.1 e ({ frames := 1, cells := 0, slots := 0, locals := 25 }) s m args below meth c H locs 0 0 Q (F0 m 307 ls [.int x13]) := by
                  intro x13 H locs ex13 hI
                  have HE : L_why S uj = x13 := by subst ex13 ea11 ex6 ex5 ex4 ex3 ex2; exact (if_pos c1).trans ((if_neg c7).trans ((if_pos c8).trans ((if_neg c9).trans ((if_pos c10)))))
                  exact rt_i hx hb hr hlocks hI hA hQ ⟨by rw [HE], rfl⟩ (Nat.zero_le _) (Nat.zero_le _) dL_why_307
                refine lv_if_le (tgt := 272) hx hb dL_why_260 (by decide) (fun c15 => ?_) (fun c15 => ?_)
                · refine lv_iload hx hb dL_why_272 (lv_at hl 2 rfl) ?_
                  refine lv_aload_n hx hb dL_why_274 rfl (lv_at hl 8 rfl) ?_
                  refine lv_aload_n hx hb dL_why_275 rfl (lv_at hl 9 rfl) ?_
                  refine lv_aload hx hb dL_why_276 (lv_at hl 10 rfl) ?_
                  refine lv_iload hx hb dL_why_278 (lv_at hl 4 rfl) ?_
                  refine cSv (rest := [.int x5]) hx hb hml hts hown hK hE hI (qL_weights G w0 la S x3 hn4 hnv) kw_100 ⟨Nat.le_of_ble_eq_true rfl, Nat.le_of_ble_eq_true rfl⟩ rfl rfl hl.1 rfl (Nat.le_of_ble_eq_true rfl) dL_why_280 ⟨Nat.zero_le _, Nat.zero_le _⟩ (fun H locs hI => ?_)
                  refine lv_iadd hx hb dL_why_283 ?_
                  refine lv_aload_n hx hb dL_why_284 rfl (lv_at hl 6 rfl) ?_
                  refine lv_aload_n hx hb dL_why_285 rfl (lv_at hl 7 rfl) ?_
                  refine lv_iload hx hb dL_why_286 (lv_at hl 4 rfl) ?_
                  refine lv_aload_n hx hb dL_why_288 rfl (lv_at hl 6 rfl) ?_
                  refine lv_bipush (v := 32) hx hb dL_why_289 (by decide) ?_
                  refine lv_iload hx hb dL_why_291 (lv_at hl 4 rfl) ?_
                  refine lv_iadd hx hb dL_why_293 ?_
                  refine gA (k := 0) (n := 57) (q := 32 + x3.toNatClampNeg) hx hb hK hI (by decide) rfl (vo_i 32 rfl (by subst ex3 ex2; exact hq) (by decide) (by decide)) (vo_c 32 rfl (by subst ex3 ex2; exact hq) (by decide)) dL_why_294 ?_
                  refine cSv (rest := [.int (x5 + (L_weights S x3))]) hx hb hml hts hown hK hE hI (qL_bears G w0 la S x3 (S 0 (32 + x3.toNatClampNeg)) (by subst ex3 ex2; exact hq)) kw_104 ⟨Nat.le_of_ble_eq_true rfl, Nat.le_of_ble_eq_true rfl⟩ rfl rfl hl.1 rfl (Nat.le_of_ble_eq_true rfl) dL_why_295 ⟨Nat.zero_le _, Nat.zero_le _⟩ (fun H locs hI => ?_)
                  refine lv_icmp_le (tgt := 306) hx hb dL_why_298 (by decide) (fun c16 => ?_) (fun c16 => ?_)
                  · refine lv_iconst (v := 0) hx hb dL_why_306 (by decide) ?_
                    exact hJ14 0 _ _ (by exact ((if_pos c15).trans (if_pos c16)).symm) hI
                  · refine lv_bipush (v := 6) hx hb dL_why_301 (by decide) ?_
                    refine lv_goto (tgt := 307) hx hb dL_why_303 (by decide) ?_
                    exact hJ14 6 _ _ (by exact ((if_pos c15).trans (if_neg c16)).symm) hI
                · refine lv_iload hx hb dL_why_263 (lv_at hl 0 rfl) ?_
                  refine lv_if_eq (tgt := 272) hx hb dL_why_265 (by decide) (fun c17 => ?_) (fun c17 => ?_)
                  · refine lv_iload hx hb dL_why_272 (lv_at hl 2 rfl) ?_
                    refine lv_aload_n hx hb dL_why_274 rfl (lv_at hl 8 rfl) ?_
                    refine lv_aload_n hx hb dL_why_275 rfl (lv_at hl 9 rfl) ?_
                    refine lv_aload hx hb dL_why_276 (lv_at hl 10 rfl) ?_
                    refine lv_iload hx hb dL_why_278 (lv_at hl 4 rfl) ?_
                    refine cSv (rest := [.int x5]) hx hb hml hts hown hK hE hI (qL_weights G w0 la S x3 hn4 hnv) kw_100 ⟨Nat.le_of_ble_eq_true rfl, Nat.le_of_ble_eq_true rfl⟩ rfl rfl hl.1 rfl (Nat.le_of_ble_eq_true rfl) dL_why_280 ⟨Nat.zero_le _, Nat.zero_le _⟩ (fun H locs hI => ?_)
                    refine lv_iadd hx hb dL_why_283 ?_
                    refine lv_aload_n hx hb dL_why_284 rfl (lv_at hl 6 rfl) ?_
                    refine lv_aload_n hx hb dL_why_285 rfl (lv_at hl 7 rfl) ?_
                    refine lv_iload hx hb dL_why_286 (lv_at hl 4 rfl) ?_
                    refine lv_aload_n hx hb dL_why_288 rfl (lv_at hl 6 rfl) ?_
                    refine lv_bipush (v := 32) hx hb dL_why_289 (by decide) ?_
                    refine lv_iload hx hb dL_why_291 (lv_at hl 4 rfl) ?_
                    refine lv_iadd hx hb dL_why_293 ?_
                    refine gA (k := 0) (n := 57) (q := 32 + x3.toNatClampNeg) hx hb hK hI (by decide) rfl (vo_i 32 rfl (by subst ex3 ex2; exact hq) (by decide) (by decide)) (vo_c 32 rfl (by subst ex3 ex2; exact hq) (by decide)) dL_why_294 ?_
                    refine cSv (rest := [.int (x5 + (L_weights S x3))]) hx hb hml hts hown hK hE hI (qL_bears G w0 la S x3 (S 0 (32 + x3.toNatClampNeg)) (by subst ex3 ex2; exact hq)) kw_104 ⟨Nat.le_of_ble_eq_true rfl, Nat.le_of_ble_eq_true rfl⟩ rfl rfl hl.1 rfl (Nat.le_of_ble_eq_true rfl) dL_why_295 ⟨Nat.zero_le _, Nat.zero_le _⟩ (fun H locs hI => ?_)
                    refine lv_icmp_le (tgt := 306) hx hb dL_why_298 (by decide) (fun c18 => ?_) (fun c18 => ?_)
                    · refine lv_iconst (v := 0) hx hb dL_why_306 (by decide) ?_
                      exact hJ14 0 _ _ (by exact ((if_neg c15).trans ((if_pos c17).trans (if_pos c18))).symm) hI
                    · refine lv_bipush (v := 6) hx hb dL_why_301 (by decide) ?_
                      refine lv_goto (tgt := 307) hx hb dL_why_303 (by decide) ?_
                      exact hJ14 6 _ _ (by exact ((if_neg c15).trans ((if_pos c17).trans (if_neg c18))).symm) hI
                  · refine lv_iconst (v := 5) hx hb dL_why_268 (by decide) ?_
                    refine lv_goto (tgt := 307) hx hb dL_why_269 (by decide) ?_
                    exact hJ14 5 _ _ (by exact ((if_neg c15).trans (if_neg c17)).symm) hI
              | succ k ih =>
                intro n hnk i_ a11 H locs ls ei ea11 hI hl
                subst ei
                refine lv_iload hx hb dL_why_190 (lv_at hl 0 rfl) ?_
                refine lv_aload hx hb dL_why_192 (lv_at hl 11 rfl) ?_
                refine lv_iconst (v := 4) hx hb dL_why_194 (by decide) ?_
                refine gA (k := 6) (n := 5) (q := 4) hx hb hK hI (by decide) rfl (by unfold vp_in; decide) (by decide) dL_why_195 ?_
                refine lv_icmp_ge (tgt := 258) hx hb dL_why_196 (by decide) (fun h => absurd h (by rw [hn4]; exact nI_ge (by omega) (by omega))) (fun _ => ?_)
                refine lv_iload hx hb dL_why_199 (lv_at hl 1 rfl) ?_
                have hJ19 : W p G.1 e ({ frames := 1, cells := 0, slots := 0, locals := 25 }) s m args below meth c H locs 0 0 Q (F0 m 250 ls [.int (bI ((¬ (a11 = 0)) ∨ ((((S 3 n) - (S 3 n) / 8 * 8) = 1) ∧ (((((S 3 n) / 8) - ((S 3 n) / 8) / 16 * 16) = x3) ∧ (¬ ((((S 3 n) / 128) - ((S 3 n) / 128) / 2 * 2) = x2))))))]) := by
                  refine lv_istore (lv' := [(11, .int (bI ((¬ (a11 = 0)) ∨ ((((S 3 n) - (S 3 n) / 8 * 8) = 1) ∧ (((((S 3 n) / 8) - ((S 3 n) / 8) / 16 * 16) = x3) ∧ (¬ ((((S 3 n) / 128) - ((S 3 n) / 128) / 2 * 2) = x2))))))), (12, .int (nI n)), (10, .int x6), (9, .int x5), (8, .int x4), (7, .int x3), (6, .int x2), (0, .ref (la 0)), (1, .ref (la 1)), (2, .ref (la 3)), (3, .ref (la 4)), (4, .ref (la 6)), (5, .int uj)]) hx hb dL_why_250 hl (by decide) rfl (fun ls hl => ?_)
                  obtain ⟨x20, ex20⟩ : ∃ z : Int32, z = (nI n) + 1 := ⟨_, rfl⟩
                  refine lv_iinc (v := x20) (lv' := [(12, .int x20), (11, .int (bI ((¬ (a11 = 0)) ∨ ((((S 3 n) - (S 3 n) / 8 * 8) = 1) ∧ (((((S 3 n) / 8) - ((S 3 n) / 8) / 16 * 16) = x3) ∧ (¬ ((((S 3 n) / 128) - ((S 3 n) / 128) / 2 * 2) = x2))))))), (10, .int x6), (9, .int x5), (8, .int x4), (7, .int x3), (6, .int x2), (0, .ref (la 0)), (1, .ref (la 1)), (2, .ref (la 3)), (3, .ref (la 4)), (4, .ref (la 6)), (5, .int uj)]) hx hb dL_why_252 hl (k := 1) rfl (by rw [ex20]; rfl) (by decide) rfl (fun ls hl => ?_)
                  refine lv_goto (tgt := 190) hx hb dL_why_255 (by decide) ?_
                  have HE : L_isMet_s S x2 x3 n a11 = bI ((¬ (a11 = 0)) ∨ ((((S 3 n) - (S 3 n) / 8 * 8) = 1) ∧ (((((S 3 n) / 8) - ((S 3 n) / 8) / 16 * 16) = x3) ∧ (¬ ((((S 3 n) / 128) - ((S 3 n) / 128) / 2 * 2) = x2))))) := by subst ex20; exact rfl
                  exact ih (n + 1) (by omega) x20 (bI ((¬ (a11 = 0)) ∨ ((((S 3 n) - (S 3 n) / 8 * 8) = 1) ∧ (((((S 3 n) / 8) - ((S 3 n) / 8) / 16 * 16) = x3) ∧ (¬ ((((S 3 n) / 128) - ((S 3 n) / 128) / 2 * 2) = x2)))))) H locs ls (by rw [ex20]; exact nI_1 n) (by show _ = L_isMet_s S x2 x3 n (L_isMet_f S x2 x3 n); rw [← ea11]; exact HE.symm) hI (lv_sub hl [0, 1, 2, 3, 4, 5, 6, 7, 8, 9, 10, 11, 12] rfl)
                refine lv_if_ne (tgt := 245) hx hb dL_why_201 (by decide) (fun c21 => ?_) (fun c21 => ?_)
                · refine lv_iconst (v := 1) hx hb dL_why_245 (by decide) ?_
                  refine lv_goto (tgt := 250) hx hb dL_why_246 (by decide) ?_
                  have eb22 : (1 : Int32) = bI ((¬ (a11 = 0)) ∨ ((((S 3 n) - (S 3 n) / 8 * 8) = 1) ∧ (((((S 3 n) / 8) - ((S 3 n) / 8) / 16 * 16) = x3) ∧ (¬ ((((S 3 n) / 128) - ((S 3 n) / 128) / 2 * 2) = x2))))) := (bI_t (Or.inl c21)).symm
                  rw [eb22]
                  exact hJ19
                · refine lv_aload_n hx hb dL_why_204 rfl (lv_at hl 9 rfl) ?_
                  refine lv_iload hx hb dL_why_205 (lv_at hl 0 rfl) ?_
                  refine gA (k := 3) (n := 8) (q := n) hx hb hK hI (by decide) rfl (vp_in_nI (Nat.lt_of_lt_of_le (show n < 8 by omega) (by decide)) (by decide)) (nI_clamp (Nat.lt_of_lt_of_le (show n < 8 by omega) (by decide))) dL_why_207 ?_
                  refine lv_bipush (v := 8) hx hb dL_why_208 (by decide) ?_
                  refine lv_irem hx hb dL_why_210 (by decide) ?_
                  refine lv_iconst (v := 1) hx hb dL_why_211 (by decide) ?_
                  refine lv_icmp_ne (tgt := 249) hx hb dL_why_212 (by decide) (fun c23 => ?_) (fun c23 => ?_)
                  · refine lv_iconst (v := 0) hx hb dL_why_249 (by decide) ?_
                    have eb24 : (0 : Int32) = bI ((¬ (a11 = 0)) ∨ ((((S 3 n) - (S 3 n) / 8 * 8) = 1) ∧ (((((S 3 n) / 8) - ((S 3 n) / 8) / 16 * 16) = x3) ∧ (¬ ((((S 3 n) / 128) - ((S 3 n) / 128) / 2 * 2) = x2))))) := (bI_f (fun k => k.elim (fun z => z c21) (fun k => c23 k.1))).symm
                    rw [eb24]
                    exact hJ19
                  · refine lv_aload_n hx hb dL_why_215 rfl (lv_at hl 9 rfl) ?_
                    refine lv_iload hx hb dL_why_216 (lv_at hl 0 rfl) ?_
                    refine gA (k := 3) (n := 8) (q := n) hx hb hK hI (by decide) rfl (vp_in_nI (Nat.lt_of_lt_of_le (show n < 8 by omega) (by decide)) (by decide)) (nI_clamp (Nat.lt_of_lt_of_le (show n < 8 by omega) (by decide))) dL_why_218 ?_
                    refine lv_bipush (v := 8) hx hb dL_why_219 (by decide) ?_
                    refine lv_idiv hx hb dL_why_221 (by decide) ?_
                    refine lv_bipush (v := 16) hx hb dL_why_222 (by decide) ?_
                    refine lv_irem hx hb dL_why_224 (by decide) ?_
                    refine lv_iload hx hb dL_why_225 (lv_at hl 5 rfl) ?_
                    refine lv_icmp_ne (tgt := 249) hx hb dL_why_227 (by decide) (fun c25 => ?_) (fun c25 => ?_)
                    · refine lv_iconst (v := 0) hx hb dL_why_249 (by decide) ?_
                      have eb26 : (0 : Int32) = bI ((¬ (a11 = 0)) ∨ ((((S 3 n) - (S 3 n) / 8 * 8) = 1) ∧ (((((S 3 n) / 8) - ((S 3 n) / 8) / 16 * 16) = x3) ∧ (¬ ((((S 3 n) / 128) - ((S 3 n) / 128) / 2 * 2) = x2))))) := (bI_f (fun k => k.elim (fun z => z c21) (fun k => (fun k => c25 k.1) k.2))).symm
                      rw [eb26]
                      exact hJ19
                    · refine lv_aload_n hx hb dL_why_230 rfl (lv_at hl 9 rfl) ?_
                      refine lv_iload hx hb dL_why_231 (lv_at hl 0 rfl) ?_
                      refine gA (k := 3) (n := 8) (q := n) hx hb hK hI (by decide) rfl (vp_in_nI (Nat.lt_of_lt_of_le (show n < 8 by omega) (by decide)) (by decide)) (nI_clamp (Nat.lt_of_lt_of_le (show n < 8 by omega) (by decide))) dL_why_233 ?_
                      refine lv_sipush (v := 128) hx hb dL_why_234 (by decide) ?_
                      refine lv_idiv hx hb dL_why_237 (by decide) ?_
                      refine lv_iconst (v := 2) hx hb dL_why_238 (by decide) ?_
                      refine lv_irem hx hb dL_why_239 (by decide) ?_
                      refine lv_iload hx hb dL_why_240 (lv_at hl 6 rfl) ?_
                      refine lv_icmp_eq (tgt := 249) hx hb dL_why_242 (by decide) (fun c27 => ?_) (fun c27 => ?_)
                      · refine lv_iconst (v := 0) hx hb dL_why_249 (by decide) ?_
                        have eb28 : (0 : Int32) = bI ((¬ (a11 = 0)) ∨ ((((S 3 n) - (S 3 n) / 8 * 8) = 1) ∧ (((((S 3 n) / 8) - ((S 3 n) / 8) / 16 * 16) = x3) ∧ (¬ ((((S 3 n) / 128) - ((S 3 n) / 128) / 2 * 2) = x2))))) := (bI_f (fun k => k.elim (fun z => z c21) (fun k => (fun k => (fun k => k c27) k.2) k.2))).symm
                        rw [eb28]
                        exact hJ19
                      · refine lv_iconst (v := 1) hx hb dL_why_245 (by decide) ?_
                        refine lv_goto (tgt := 250) hx hb dL_why_246 (by decide) ?_
                        have eb29 : (1 : Int32) = bI ((¬ (a11 = 0)) ∨ ((((S 3 n) - (S 3 n) / 8 * 8) = 1) ∧ (((((S 3 n) / 8) - ((S 3 n) / 8) / 16 * 16) = x3) ∧ (¬ ((((S 3 n) / 128) - ((S 3 n) / 128) / 2 * 2) = x2))))) := (bI_t (Or.inr ⟨c23, ⟨c25, c27⟩⟩)).symm
                        rw [eb29]
                        exact hJ19
            exact hL12 nv 0 (by omega) 0 0 H locs ls nI_0.symm rfl hI (lv_sub hl [0, 1, 2, 3, 4, 5, 6, 7, 8, 9, 10, 11, 12] rfl)
          · refine lv_iload hx hb dL_why_164 (lv_at hl 2 rfl) ?_
            refine lv_iconst (v := 1) hx hb dL_why_166 (by decide) ?_
            have hJ31 : ∀ (x30 : Int32), (x30 = if x4 = 1 then (if x5 ≤ 5000 then 4 else 3) else 4) → W p G.1 e ({ frames := 1, cells := 0, slots := 0, locals := 25 }) s m args below meth c H locs 0 0 Q (F0 m 183 ls [.int x30]) := by
              intro x30 ex30
              have HE : L_why S uj = x30 := by subst ex30 ex6 ex5 ex4 ex3 ex2; exact (if_pos c1).trans ((if_neg c7).trans ((if_pos c8).trans ((if_neg c9).trans ((if_neg c10)))))
              exact rt_i hx hb hr hlocks hI hA hQ ⟨by rw [HE], rfl⟩ (Nat.zero_le _) (Nat.zero_le _) dL_why_183
            refine lv_icmp_ne (tgt := 182) hx hb dL_why_167 (by decide) (fun c32 => ?_) (fun c32 => ?_)
            · refine lv_iconst (v := 4) hx hb dL_why_182 (by decide) ?_
              exact hJ31 4 (by exact (if_neg c32).symm)
            · refine lv_iload hx hb dL_why_170 (lv_at hl 1 rfl) ?_
              refine lv_sipush (v := 5000) hx hb dL_why_172 (by decide) ?_
              refine lv_icmp_le (tgt := 182) hx hb dL_why_175 (by decide) (fun c33 => ?_) (fun c33 => ?_)
              · refine lv_iconst (v := 4) hx hb dL_why_182 (by decide) ?_
                exact hJ31 4 (by exact ((if_pos c32).trans (if_pos c33)).symm)
              · refine lv_iconst (v := 3) hx hb dL_why_178 (by decide) ?_
                refine lv_goto (tgt := 183) hx hb dL_why_179 (by decide) ?_
                exact hJ31 3 (by exact ((if_pos c32).trans (if_neg c33)).symm)
        · refine lv_iload hx hb dL_why_131 (lv_at hl 1 rfl) ?_
          refine lv_sipush (v := 5000) hx hb dL_why_133 (by decide) ?_
          refine lv_icmp_gt (tgt := 164) hx hb dL_why_136 (by decide) (fun c34 => ?_) (fun c34 => ?_)
          · refine lv_iload hx hb dL_why_164 (lv_at hl 2 rfl) ?_
            refine lv_iconst (v := 1) hx hb dL_why_166 (by decide) ?_
            have hJ36 : ∀ (x35 : Int32), (x35 = if x4 = 1 then (if x5 ≤ 5000 then 4 else 3) else 4) → W p G.1 e ({ frames := 1, cells := 0, slots := 0, locals := 25 }) s m args below meth c H locs 0 0 Q (F0 m 183 ls [.int x35]) := by
              intro x35 ex35
              have HE : L_why S uj = x35 := by subst ex35 ex6 ex5 ex4 ex3 ex2; exact (if_pos c1).trans ((if_neg c7).trans ((if_pos c8).trans ((if_pos c9).trans ((if_pos c34)))))
              exact rt_i hx hb hr hlocks hI hA hQ ⟨by rw [HE], rfl⟩ (Nat.zero_le _) (Nat.zero_le _) dL_why_183
            refine lv_icmp_ne (tgt := 182) hx hb dL_why_167 (by decide) (fun c37 => ?_) (fun c37 => ?_)
            · refine lv_iconst (v := 4) hx hb dL_why_182 (by decide) ?_
              exact hJ36 4 (by exact (if_neg c37).symm)
            · refine lv_iload hx hb dL_why_170 (lv_at hl 1 rfl) ?_
              refine lv_sipush (v := 5000) hx hb dL_why_172 (by decide) ?_
              refine lv_icmp_le (tgt := 182) hx hb dL_why_175 (by decide) (fun c38 => ?_) (fun c38 => ?_)
              · refine lv_iconst (v := 4) hx hb dL_why_182 (by decide) ?_
                exact hJ36 4 (by exact ((if_pos c37).trans (if_pos c38)).symm)
              · refine lv_iconst (v := 3) hx hb dL_why_178 (by decide) ?_
                refine lv_goto (tgt := 183) hx hb dL_why_179 (by decide) ?_
                exact hJ36 3 (by exact ((if_pos c37).trans (if_neg c38)).symm)
          · refine lv_aload hx hb dL_why_139 (lv_at hl 9 rfl) ?_
            refine lv_iconst (v := 0) hx hb dL_why_141 (by decide) ?_
            refine gA (k := 6) (n := 5) (q := 0) hx hb hK hI (by decide) rfl (by unfold vp_in; decide) (by decide) dL_why_142 ?_
            refine lv_aload_n hx hb dL_why_143 rfl (lv_at hl 5 rfl) ?_
            refine lv_bipush (v := 40) hx hb dL_why_144 (by decide) ?_
            refine lv_bipush (v := 8) hx hb dL_why_146 (by decide) ?_
            refine lv_iload hx hb dL_why_148 (lv_at hl 4 rfl) ?_
            refine lv_imul hx hb dL_why_150 ?_
            refine lv_iadd hx hb dL_why_151 ?_
            refine lv_iload hx hb dL_why_152 (lv_at hl 3 rfl) ?_
            refine lv_iadd hx hb dL_why_154 ?_
            refine gA (k := 0) (n := 57) (q := ((40 + (8 * x2)) + x3).toNatClampNeg) hx hb hK hI (by decide) rfl (by subst ex6 ex5 ex4 ex3 ex2; exact hw) rfl dL_why_155 ?_
            refine lv_isub hx hb dL_why_156 ?_
            refine lv_aload hx hb dL_why_157 (lv_at hl 9 rfl) ?_
            refine lv_iconst (v := 2) hx hb dL_why_159 (by decide) ?_
            refine gA (k := 6) (n := 5) (q := 2) hx hb hK hI (by decide) rfl (by unfold vp_in; decide) (by decide) dL_why_160 ?_
            refine lv_icmp_ge (tgt := 184) hx hb dL_why_161 (by decide) (fun c39 => ?_) (fun c39 => ?_)
            · refine lv_iconst (v := 0) hx hb dL_why_184 (by decide) ?_
              refine lv_istore (lv' := [(11, .int 0), (10, .int x6), (9, .int x5), (8, .int x4), (7, .int x3), (6, .int x2), (0, .ref (la 0)), (1, .ref (la 1)), (2, .ref (la 3)), (3, .ref (la 4)), (4, .ref (la 6)), (5, .int uj)]) hx hb dL_why_185 hl (by decide) rfl (fun ls hl => ?_)
              refine lv_iconst (v := 0) hx hb dL_why_187 (by decide) ?_
              refine lv_istore (lv' := [(12, .int 0), (11, .int 0), (10, .int x6), (9, .int x5), (8, .int x4), (7, .int x3), (6, .int x2), (0, .ref (la 0)), (1, .ref (la 1)), (2, .ref (la 3)), (3, .ref (la 4)), (4, .ref (la 6)), (5, .int uj)]) hx hb dL_why_188 hl (by decide) rfl (fun ls hl => ?_)
              have hL41 : ∀ (k n : Nat), n + k = nv → ∀ (i_ : Int32) (a40 : Int32) (H : Heap) (locs : List Loc) (ls : Array Slot), (i_ = nI n) → (a40 = L_isMet_f S x2 x3 n) → (fI G.2.2.1 A s.heap (jn w0 (lW G.2.2.2 la S)) H locs) → (lv_has ls 13 [(12, .int i_), (11, .int a40), (10, .int x6), (9, .int x5), (8, .int x4), (7, .int x3), (6, .int x2), (0, .ref (la 0)), (1, .ref (la 1)), (2, .ref (la 3)), (3, .ref (la 4)), (4, .ref (la 6)), (5, .int uj)]) → W p G.1 e ({ frames := 1, cells := 0, slots := 0, locals := 25 }) s m args below meth c H locs 0 0 Q (F0 m 190 ls []) := by
                intro k
                induction k with
                | zero =>
                  intro n hnk i_ a40 H locs ls ei ea40 hI hl
                  subst ei
                  refine lv_iload hx hb dL_why_190 (lv_at hl 0 rfl) ?_
                  refine lv_aload hx hb dL_why_192 (lv_at hl 11 rfl) ?_
                  refine lv_iconst (v := 4) hx hb dL_why_194 (by decide) ?_
                  refine gA (k := 6) (n := 5) (q := 4) hx hb hK hI (by decide) rfl (by unfold vp_in; decide) (by decide) dL_why_195 ?_
                  refine lv_icmp_ge (tgt := 258) hx hb dL_why_196 (by decide) (fun _ => ?_) (fun h => absurd (by rw [hn4]; exact nI_le (by omega) (by omega)) h)
                  have hn9 : n = (S 6 4).toNatClampNeg := by rw [hn4, nI_clamp (by omega)]; omega
                  rw [hn9] at ea40
                  have hl : lv_has ls 13 [(11, .int a40), (10, .int x6), (9, .int x5), (8, .int x4), (7, .int x3), (6, .int x2), (0, .ref (la 0)), (1, .ref (la 1)), (2, .ref (la 3)), (3, .ref (la 4)), (4, .ref (la 6)), (5, .int uj)] := lv_sub hl [1, 2, 3, 4, 5, 6, 7, 8, 9, 10, 11, 12] rfl
                  refine lv_iload hx hb dL_why_258 (lv_at hl 1 rfl) ?_
                  have hJ43 : ∀ (x42 : Int32) (H : Heap) (locs : List Loc), (x42 = if x6 ≤ 0 then (if (x5 + (L_weights S x3)) ≤ (L_bears S x3 (S 0 (32 + x3.toNatClampNeg))) then 0 else 6) else (if a40 = 0 then (if (x5 + (L_weights S x3)) ≤ (L_bears S x3 (S 0 (32 + x3.toNatClampNeg))) then 0 else 6) else 5)) → (fI G.2.2.1 A s.heap (jn w0 (lW G.2.2.2 la S)) H locs) → W p G.1 e ({ frames := 1, cells := 0, slots := 0, locals := 25 }) s m args below meth c H locs 0 0 Q (F0 m 307 ls [.int x42]) := by
                    intro x42 H locs ex42 hI
                    have HE : L_why S uj = x42 := by subst ex42 ea40 ex6 ex5 ex4 ex3 ex2; exact (if_pos c1).trans ((if_neg c7).trans ((if_pos c8).trans ((if_pos c9).trans ((if_neg c34).trans ((if_pos c39))))))
                    exact rt_i hx hb hr hlocks hI hA hQ ⟨by rw [HE], rfl⟩ (Nat.zero_le _) (Nat.zero_le _) dL_why_307
                  refine lv_if_le (tgt := 272) hx hb dL_why_260 (by decide) (fun c44 => ?_) (fun c44 => ?_)
                  · refine lv_iload hx hb dL_why_272 (lv_at hl 2 rfl) ?_
                    refine lv_aload_n hx hb dL_why_274 rfl (lv_at hl 8 rfl) ?_
                    refine lv_aload_n hx hb dL_why_275 rfl (lv_at hl 9 rfl) ?_
                    refine lv_aload hx hb dL_why_276 (lv_at hl 10 rfl) ?_
                    refine lv_iload hx hb dL_why_278 (lv_at hl 4 rfl) ?_
                    refine cSv (rest := [.int x5]) hx hb hml hts hown hK hE hI (qL_weights G w0 la S x3 hn4 hnv) kw_100 ⟨Nat.le_of_ble_eq_true rfl, Nat.le_of_ble_eq_true rfl⟩ rfl rfl hl.1 rfl (Nat.le_of_ble_eq_true rfl) dL_why_280 ⟨Nat.zero_le _, Nat.zero_le _⟩ (fun H locs hI => ?_)
                    refine lv_iadd hx hb dL_why_283 ?_
                    refine lv_aload_n hx hb dL_why_284 rfl (lv_at hl 6 rfl) ?_
                    refine lv_aload_n hx hb dL_why_285 rfl (lv_at hl 7 rfl) ?_
                    refine lv_iload hx hb dL_why_286 (lv_at hl 4 rfl) ?_
                    refine lv_aload_n hx hb dL_why_288 rfl (lv_at hl 6 rfl) ?_
                    refine lv_bipush (v := 32) hx hb dL_why_289 (by decide) ?_
                    refine lv_iload hx hb dL_why_291 (lv_at hl 4 rfl) ?_
                    refine lv_iadd hx hb dL_why_293 ?_
                    refine gA (k := 0) (n := 57) (q := 32 + x3.toNatClampNeg) hx hb hK hI (by decide) rfl (vo_i 32 rfl (by subst ex3 ex2; exact hq) (by decide) (by decide)) (vo_c 32 rfl (by subst ex3 ex2; exact hq) (by decide)) dL_why_294 ?_
                    refine cSv (rest := [.int (x5 + (L_weights S x3))]) hx hb hml hts hown hK hE hI (qL_bears G w0 la S x3 (S 0 (32 + x3.toNatClampNeg)) (by subst ex3 ex2; exact hq)) kw_104 ⟨Nat.le_of_ble_eq_true rfl, Nat.le_of_ble_eq_true rfl⟩ rfl rfl hl.1 rfl (Nat.le_of_ble_eq_true rfl) dL_why_295 ⟨Nat.zero_le _, Nat.zero_le _⟩ (fun H locs hI => ?_)
                    refine lv_icmp_le (tgt := 306) hx hb dL_why_298 (by decide) (fun c45 => ?_) (fun c45 => ?_)
                    · refine lv_iconst (v := 0) hx hb dL_why_306 (by decide) ?_
                      exact hJ43 0 _ _ (by exact ((if_pos c44).trans (if_pos c45)).symm) hI
                    · refine lv_bipush (v := 6) hx hb dL_why_301 (by decide) ?_
                      refine lv_goto (tgt := 307) hx hb dL_why_303 (by decide) ?_
                      exact hJ43 6 _ _ (by exact ((if_pos c44).trans (if_neg c45)).symm) hI
                  · refine lv_iload hx hb dL_why_263 (lv_at hl 0 rfl) ?_
                    refine lv_if_eq (tgt := 272) hx hb dL_why_265 (by decide) (fun c46 => ?_) (fun c46 => ?_)
                    · refine lv_iload hx hb dL_why_272 (lv_at hl 2 rfl) ?_
                      refine lv_aload_n hx hb dL_why_274 rfl (lv_at hl 8 rfl) ?_
                      refine lv_aload_n hx hb dL_why_275 rfl (lv_at hl 9 rfl) ?_
                      refine lv_aload hx hb dL_why_276 (lv_at hl 10 rfl) ?_
                      refine lv_iload hx hb dL_why_278 (lv_at hl 4 rfl) ?_
                      refine cSv (rest := [.int x5]) hx hb hml hts hown hK hE hI (qL_weights G w0 la S x3 hn4 hnv) kw_100 ⟨Nat.le_of_ble_eq_true rfl, Nat.le_of_ble_eq_true rfl⟩ rfl rfl hl.1 rfl (Nat.le_of_ble_eq_true rfl) dL_why_280 ⟨Nat.zero_le _, Nat.zero_le _⟩ (fun H locs hI => ?_)
                      refine lv_iadd hx hb dL_why_283 ?_
                      refine lv_aload_n hx hb dL_why_284 rfl (lv_at hl 6 rfl) ?_
                      refine lv_aload_n hx hb dL_why_285 rfl (lv_at hl 7 rfl) ?_
                      refine lv_iload hx hb dL_why_286 (lv_at hl 4 rfl) ?_
                      refine lv_aload_n hx hb dL_why_288 rfl (lv_at hl 6 rfl) ?_
                      refine lv_bipush (v := 32) hx hb dL_why_289 (by decide) ?_
                      refine lv_iload hx hb dL_why_291 (lv_at hl 4 rfl) ?_
                      refine lv_iadd hx hb dL_why_293 ?_
                      refine gA (k := 0) (n := 57) (q := 32 + x3.toNatClampNeg) hx hb hK hI (by decide) rfl (vo_i 32 rfl (by subst ex3 ex2; exact hq) (by decide) (by decide)) (vo_c 32 rfl (by subst ex3 ex2; exact hq) (by decide)) dL_why_294 ?_
                      refine cSv (rest := [.int (x5 + (L_weights S x3))]) hx hb hml hts hown hK hE hI (qL_bears G w0 la S x3 (S 0 (32 + x3.toNatClampNeg)) (by subst ex3 ex2; exact hq)) kw_104 ⟨Nat.le_of_ble_eq_true rfl, Nat.le_of_ble_eq_true rfl⟩ rfl rfl hl.1 rfl (Nat.le_of_ble_eq_true rfl) dL_why_295 ⟨Nat.zero_le _, Nat.zero_le _⟩ (fun H locs hI => ?_)
                      refine lv_icmp_le (tgt := 306) hx hb dL_why_298 (by decide) (fun c47 => ?_) (fun c47 => ?_)
                      · refine lv_iconst (v := 0) hx hb dL_why_306 (by decide) ?_
                        exact hJ43 0 _ _ (by exact ((if_neg c44).trans ((if_pos c46).trans (if_pos c47))).symm) hI
                      · refine lv_bipush (v := 6) hx hb dL_why_301 (by decide) ?_
                        refine lv_goto (tgt := 307) hx hb dL_why_303 (by decide) ?_
                        exact hJ43 6 _ _ (by exact ((if_neg c44).trans ((if_pos c46).trans (if_neg c47))).symm) hI
                    · refine lv_iconst (v := 5) hx hb dL_why_268 (by decide) ?_
                      refine lv_goto (tgt := 307) hx hb dL_why_269 (by decide) ?_
                      exact hJ43 5 _ _ (by exact ((if_neg c44).trans (if_neg c46)).symm) hI
                | succ k ih =>
                  intro n hnk i_ a40 H locs ls ei ea40 hI hl
                  subst ei
                  refine lv_iload hx hb dL_why_190 (lv_at hl 0 rfl) ?_
                  refine lv_aload hx hb dL_why_192 (lv_at hl 11 rfl) ?_
                  refine lv_iconst (v := 4) hx hb dL_why_194 (by decide) ?_
                  refine gA (k := 6) (n := 5) (q := 4) hx hb hK hI (by decide) rfl (by unfold vp_in; decide) (by decide) dL_why_195 ?_
                  refine lv_icmp_ge (tgt := 258) hx hb dL_why_196 (by decide) (fun h => absurd h (by rw [hn4]; exact nI_ge (by omega) (by omega))) (fun _ => ?_)
                  refine lv_iload hx hb dL_why_199 (lv_at hl 1 rfl) ?_
                  have hJ48 : W p G.1 e ({ frames := 1, cells := 0, slots := 0, locals := 25 }) s m args below meth c H locs 0 0 Q (F0 m 250 ls [.int (bI ((¬ (a40 = 0)) ∨ ((((S 3 n) - (S 3 n) / 8 * 8) = 1) ∧ (((((S 3 n) / 8) - ((S 3 n) / 8) / 16 * 16) = x3) ∧ (¬ ((((S 3 n) / 128) - ((S 3 n) / 128) / 2 * 2) = x2))))))]) := by
                    refine lv_istore (lv' := [(11, .int (bI ((¬ (a40 = 0)) ∨ ((((S 3 n) - (S 3 n) / 8 * 8) = 1) ∧ (((((S 3 n) / 8) - ((S 3 n) / 8) / 16 * 16) = x3) ∧ (¬ ((((S 3 n) / 128) - ((S 3 n) / 128) / 2 * 2) = x2))))))), (12, .int (nI n)), (10, .int x6), (9, .int x5), (8, .int x4), (7, .int x3), (6, .int x2), (0, .ref (la 0)), (1, .ref (la 1)), (2, .ref (la 3)), (3, .ref (la 4)), (4, .ref (la 6)), (5, .int uj)]) hx hb dL_why_250 hl (by decide) rfl (fun ls hl => ?_)
                    obtain ⟨x49, ex49⟩ : ∃ z : Int32, z = (nI n) + 1 := ⟨_, rfl⟩
                    refine lv_iinc (v := x49) (lv' := [(12, .int x49), (11, .int (bI ((¬ (a40 = 0)) ∨ ((((S 3 n) - (S 3 n) / 8 * 8) = 1) ∧ (((((S 3 n) / 8) - ((S 3 n) / 8) / 16 * 16) = x3) ∧ (¬ ((((S 3 n) / 128) - ((S 3 n) / 128) / 2 * 2) = x2))))))), (10, .int x6), (9, .int x5), (8, .int x4), (7, .int x3), (6, .int x2), (0, .ref (la 0)), (1, .ref (la 1)), (2, .ref (la 3)), (3, .ref (la 4)), (4, .ref (la 6)), (5, .int uj)]) hx hb dL_why_252 hl (k := 1) rfl (by rw [ex49]; rfl) (by decide) rfl (fun ls hl => ?_)
                    refine lv_goto (tgt := 190) hx hb dL_why_255 (by decide) ?_
                    have HE : L_isMet_s S x2 x3 n a40 = bI ((¬ (a40 = 0)) ∨ ((((S 3 n) - (S 3 n) / 8 * 8) = 1) ∧ (((((S 3 n) / 8) - ((S 3 n) / 8) / 16 * 16) = x3) ∧ (¬ ((((S 3 n) / 128) - ((S 3 n) / 128) / 2 * 2) = x2))))) := by subst ex49; exact rfl
                    exact ih (n + 1) (by omega) x49 (bI ((¬ (a40 = 0)) ∨ ((((S 3 n) - (S 3 n) / 8 * 8) = 1) ∧ (((((S 3 n) / 8) - ((S 3 n) / 8) / 16 * 16) = x3) ∧ (¬ ((((S 3 n) / 128) - ((S 3 n) / 128) / 2 * 2) = x2)))))) H locs ls (by rw [ex49]; exact nI_1 n) (by show _ = L_isMet_s S x2 x3 n (L_isMet_f S x2 x3 n); rw [← ea40]; exact HE.symm) hI (lv_sub hl [0, 1, 2, 3, 4, 5, 6, 7, 8, 9, 10, 11, 12] rfl)
                  refine lv_if_ne (tgt := 245) hx hb dL_why_201 (by decide) (fun c50 => ?_) (fun c50 => ?_)
                  · refine lv_iconst (v := 1) hx hb dL_why_245 (by decide) ?_
                    refine lv_goto (tgt := 250) hx hb dL_why_246 (by decide) ?_
                    have eb51 : (1 : Int32) = bI ((¬ (a40 = 0)) ∨ ((((S 3 n) - (S 3 n) / 8 * 8) = 1) ∧ (((((S 3 n) / 8) - ((S 3 n) / 8) / 16 * 16) = x3) ∧ (¬ ((((S 3 n) / 128) - ((S 3 n) / 128) / 2 * 2) = x2))))) := (bI_t (Or.inl c50)).symm
                    rw [eb51]
                    exact hJ48
                  · refine lv_aload_n hx hb dL_why_204 rfl (lv_at hl 9 rfl) ?_
                    refine lv_iload hx hb dL_why_205 (lv_at hl 0 rfl) ?_
                    refine gA (k := 3) (n := 8) (q := n) hx hb hK hI (by decide) rfl (vp_in_nI (Nat.lt_of_lt_of_le (show n < 8 by omega) (by decide)) (by decide)) (nI_clamp (Nat.lt_of_lt_of_le (show n < 8 by omega) (by decide))) dL_why_207 ?_
                    refine lv_bipush (v := 8) hx hb dL_why_208 (by decide) ?_
                    refine lv_irem hx hb dL_why_210 (by decide) ?_
                    refine lv_iconst (v := 1) hx hb dL_why_211 (by decide) ?_
                    refine lv_icmp_ne (tgt := 249) hx hb dL_why_212 (by decide) (fun c52 => ?_) (fun c52 => ?_)
                    · refine lv_iconst (v := 0) hx hb dL_why_249 (by decide) ?_
                      have eb53 : (0 : Int32) = bI ((¬ (a40 = 0)) ∨ ((((S 3 n) - (S 3 n) / 8 * 8) = 1) ∧ (((((S 3 n) / 8) - ((S 3 n) / 8) / 16 * 16) = x3) ∧ (¬ ((((S 3 n) / 128) - ((S 3 n) / 128) / 2 * 2) = x2))))) := (bI_f (fun k => k.elim (fun z => z c50) (fun k => c52 k.1))).symm
                      rw [eb53]
                      exact hJ48
                    · refine lv_aload_n hx hb dL_why_215 rfl (lv_at hl 9 rfl) ?_
                      refine lv_iload hx hb dL_why_216 (lv_at hl 0 rfl) ?_
                      refine gA (k := 3) (n := 8) (q := n) hx hb hK hI (by decide) rfl (vp_in_nI (Nat.lt_of_lt_of_le (show n < 8 by omega) (by decide)) (by decide)) (nI_clamp (Nat.lt_of_lt_of_le (show n < 8 by omega) (by decide))) dL_why_218 ?_
                      refine lv_bipush (v := 8) hx hb dL_why_219 (by decide) ?_
                      refine lv_idiv hx hb dL_why_221 (by decide) ?_
                      refine lv_bipush (v := 16) hx hb dL_why_222 (by decide) ?_
                      refine lv_irem hx hb dL_why_224 (by decide) ?_
                      refine lv_iload hx hb dL_why_225 (lv_at hl 5 rfl) ?_
                      refine lv_icmp_ne (tgt := 249) hx hb dL_why_227 (by decide) (fun c54 => ?_) (fun c54 => ?_)
                      · refine lv_iconst (v := 0) hx hb dL_why_249 (by decide) ?_
                        have eb55 : (0 : Int32) = bI ((¬ (a40 = 0)) ∨ ((((S 3 n) - (S 3 n) / 8 * 8) = 1) ∧ (((((S 3 n) / 8) - ((S 3 n) / 8) / 16 * 16) = x3) ∧ (¬ ((((S 3 n) / 128) - ((S 3 n) / 128) / 2 * 2) = x2))))) := (bI_f (fun k => k.elim (fun z => z c50) (fun k => (fun k => c54 k.1) k.2))).symm
                        rw [eb55]
                        exact hJ48
                      · refine lv_aload_n hx hb dL_why_230 rfl (lv_at hl 9 rfl) ?_
                        refine lv_iload hx hb dL_why_231 (lv_at hl 0 rfl) ?_
                        refine gA (k := 3) (n := 8) (q := n) hx hb hK hI (by decide) rfl (vp_in_nI (Nat.lt_of_lt_of_le (show n < 8 by omega) (by decide)) (by decide)) (nI_clamp (Nat.lt_of_lt_of_le (show n < 8 by omega) (by decide))) dL_why_233 ?_
                        refine lv_sipush (v := 128) hx hb dL_why_234 (by decide) ?_
                        refine lv_idiv hx hb dL_why_237 (by decide) ?_
                        refine lv_iconst (v := 2) hx hb dL_why_238 (by decide) ?_
                        refine lv_irem hx hb dL_why_239 (by decide) ?_
                        refine lv_iload hx hb dL_why_240 (lv_at hl 6 rfl) ?_
                        refine lv_icmp_eq (tgt := 249) hx hb dL_why_242 (by decide) (fun c56 => ?_) (fun c56 => ?_)
                        · refine lv_iconst (v := 0) hx hb dL_why_249 (by decide) ?_
                          have eb57 : (0 : Int32) = bI ((¬ (a40 = 0)) ∨ ((((S 3 n) - (S 3 n) / 8 * 8) = 1) ∧ (((((S 3 n) / 8) - ((S 3 n) / 8) / 16 * 16) = x3) ∧ (¬ ((((S 3 n) / 128) - ((S 3 n) / 128) / 2 * 2) = x2))))) := (bI_f (fun k => k.elim (fun z => z c50) (fun k => (fun k => (fun k => k c56) k.2) k.2))).symm
                          rw [eb57]
                          exact hJ48
                        · refine lv_iconst (v := 1) hx hb dL_why_245 (by decide) ?_
                          refine lv_goto (tgt := 250) hx hb dL_why_246 (by decide) ?_
                          have eb58 : (1 : Int32) = bI ((¬ (a40 = 0)) ∨ ((((S 3 n) - (S 3 n) / 8 * 8) = 1) ∧ (((((S 3 n) / 8) - ((S 3 n) / 8) / 16 * 16) = x3) ∧ (¬ ((((S 3 n) / 128) - ((S 3 n) / 128) / 2 * 2) = x2))))) := (bI_t (Or.inr ⟨c52, ⟨c54, c56⟩⟩)).symm
                          rw [eb58]
                          exact hJ48
              exact hL41 nv 0 (by omega) 0 0 H locs ls nI_0.symm rfl hI (lv_sub hl [0, 1, 2, 3, 4, 5, 6, 7, 8, 9, 10, 11, 12] rfl)
            · refine lv_iload hx hb dL_why_164 (lv_at hl 2 rfl) ?_
              refine lv_iconst (v := 1) hx hb dL_why_166 (by decide) ?_
              have hJ60 : ∀ (x59 : Int32), (x59 = if x4 = 1 then (if x5 ≤ 5000 then 4 else 3) else 4) → W p G.1 e ({ frames := 1, cells := 0, slots := 0, locals := 25 }) s m args below meth c H locs 0 0 Q (F0 m 183 ls [.int x59]) := by
                intro x59 ex59
                have HE : L_why S uj = x59 := by subst ex59 ex6 ex5 ex4 ex3 ex2; exact (if_pos c1).trans ((if_neg c7).trans ((if_pos c8).trans ((if_pos c9).trans ((if_neg c34).trans ((if_neg c39))))))
                exact rt_i hx hb hr hlocks hI hA hQ ⟨by rw [HE], rfl⟩ (Nat.zero_le _) (Nat.zero_le _) dL_why_183
              refine lv_icmp_ne (tgt := 182) hx hb dL_why_167 (by decide) (fun c61 => ?_) (fun c61 => ?_)
              · refine lv_iconst (v := 4) hx hb dL_why_182 (by decide) ?_
                exact hJ60 4 (by exact (if_neg c61).symm)
              · refine lv_iload hx hb dL_why_170 (lv_at hl 1 rfl) ?_
                refine lv_sipush (v := 5000) hx hb dL_why_172 (by decide) ?_
                refine lv_icmp_le (tgt := 182) hx hb dL_why_175 (by decide) (fun c62 => ?_) (fun c62 => ?_)
                · refine lv_iconst (v := 4) hx hb dL_why_182 (by decide) ?_
                  exact hJ60 4 (by exact ((if_pos c61).trans (if_pos c62)).symm)
                · refine lv_iconst (v := 3) hx hb dL_why_178 (by decide) ?_
                  refine lv_goto (tgt := 183) hx hb dL_why_179 (by decide) ?_
                  exact hJ60 3 (by exact ((if_pos c61).trans (if_neg c62)).symm)
      · refine lv_aload hx hb dL_why_88 (lv_at hl 9 rfl) ?_
        refine lv_iconst (v := 1) hx hb dL_why_90 (by decide) ?_
        refine gA (k := 6) (n := 5) (q := 1) hx hb hK hI (by decide) rfl (by unfold vp_in; decide) (by decide) dL_why_91 ?_
        refine lv_if_ge (tgt := 125) hx hb dL_why_92 (by decide) (fun c63 => ?_) (fun c63 => ?_)
        · refine lv_iload hx hb dL_why_125 (lv_at hl 2 rfl) ?_
          refine lv_iconst (v := 1) hx hb dL_why_127 (by decide) ?_
          refine lv_icmp_ne (tgt := 139) hx hb dL_why_128 (by decide) (fun c64 => ?_) (fun c64 => ?_)
          · refine lv_aload hx hb dL_why_139 (lv_at hl 9 rfl) ?_
            refine lv_iconst (v := 0) hx hb dL_why_141 (by decide) ?_
            refine gA (k := 6) (n := 5) (q := 0) hx hb hK hI (by decide) rfl (by unfold vp_in; decide) (by decide) dL_why_142 ?_
            refine lv_aload_n hx hb dL_why_143 rfl (lv_at hl 5 rfl) ?_
            refine lv_bipush (v := 40) hx hb dL_why_144 (by decide) ?_
            refine lv_bipush (v := 8) hx hb dL_why_146 (by decide) ?_
            refine lv_iload hx hb dL_why_148 (lv_at hl 4 rfl) ?_
            refine lv_imul hx hb dL_why_150 ?_
            refine lv_iadd hx hb dL_why_151 ?_
            refine lv_iload hx hb dL_why_152 (lv_at hl 3 rfl) ?_
            refine lv_iadd hx hb dL_why_154 ?_
            refine gA (k := 0) (n := 57) (q := ((40 + (8 * x2)) + x3).toNatClampNeg) hx hb hK hI (by decide) rfl (by subst ex6 ex5 ex4 ex3 ex2; exact hw) rfl dL_why_155 ?_
            refine lv_isub hx hb dL_why_156 ?_
            refine lv_aload hx hb dL_why_157 (lv_at hl 9 rfl) ?_
            refine lv_iconst (v := 2) hx hb dL_why_159 (by decide) ?_
            refine gA (k := 6) (n := 5) (q := 2) hx hb hK hI (by decide) rfl (by unfold vp_in; decide) (by decide) dL_why_160 ?_
            refine lv_icmp_ge (tgt := 184) hx hb dL_why_161 (by decide) (fun c65 => ?_) (fun c65 => ?_)
            · refine lv_iconst (v := 0) hx hb dL_why_184 (by decide) ?_
              refine lv_istore (lv' := [(11, .int 0), (10, .int x6), (9, .int x5), (8, .int x4), (7, .int x3), (6, .int x2), (0, .ref (la 0)), (1, .ref (la 1)), (2, .ref (la 3)), (3, .ref (la 4)), (4, .ref (la 6)), (5, .int uj)]) hx hb dL_why_185 hl (by decide) rfl (fun ls hl => ?_)
              refine lv_iconst (v := 0) hx hb dL_why_187 (by decide) ?_
              refine lv_istore (lv' := [(12, .int 0), (11, .int 0), (10, .int x6), (9, .int x5), (8, .int x4), (7, .int x3), (6, .int x2), (0, .ref (la 0)), (1, .ref (la 1)), (2, .ref (la 3)), (3, .ref (la 4)), (4, .ref (la 6)), (5, .int uj)]) hx hb dL_why_188 hl (by decide) rfl (fun ls hl => ?_)
              have hL67 : ∀ (k n : Nat), n + k = nv → ∀ (i_ : Int32) (a66 : Int32) (H : Heap) (locs : List Loc) (ls : Array Slot), (i_ = nI n) → (a66 = L_isMet_f S x2 x3 n) → (fI G.2.2.1 A s.heap (jn w0 (lW G.2.2.2 la S)) H locs) → (lv_has ls 13 [(12, .int i_), (11, .int a66), (10, .int x6), (9, .int x5), (8, .int x4), (7, .int x3), (6, .int x2), (0, .ref (la 0)), (1, .ref (la 1)), (2, .ref (la 3)), (3, .ref (la 4)), (4, .ref (la 6)), (5, .int uj)]) → W p G.1 e ({ frames := 1, cells := 0, slots := 0, locals := 25 }) s m args below meth c H locs 0 0 Q (F0 m 190 ls []) := by
                intro k
                induction k with
                | zero =>
                  intro n hnk i_ a66 H locs ls ei ea66 hI hl
                  subst ei
                  refine lv_iload hx hb dL_why_190 (lv_at hl 0 rfl) ?_
                  refine lv_aload hx hb dL_why_192 (lv_at hl 11 rfl) ?_
                  refine lv_iconst (v := 4) hx hb dL_why_194 (by decide) ?_
                  refine gA (k := 6) (n := 5) (q := 4) hx hb hK hI (by decide) rfl (by unfold vp_in; decide) (by decide) dL_why_195 ?_
                  refine lv_icmp_ge (tgt := 258) hx hb dL_why_196 (by decide) (fun _ => ?_) (fun h => absurd (by rw [hn4]; exact nI_le (by omega) (by omega)) h)
                  have hn9 : n = (S 6 4).toNatClampNeg := by rw [hn4, nI_clamp (by omega)]; omega
                  rw [hn9] at ea66
                  have hl : lv_has ls 13 [(11, .int a66), (10, .int x6), (9, .int x5), (8, .int x4), (7, .int x3), (6, .int x2), (0, .ref (la 0)), (1, .ref (la 1)), (2, .ref (la 3)), (3, .ref (la 4)), (4, .ref (la 6)), (5, .int uj)] := lv_sub hl [1, 2, 3, 4, 5, 6, 7, 8, 9, 10, 11, 12] rfl
                  refine lv_iload hx hb dL_why_258 (lv_at hl 1 rfl) ?_
                  have hJ69 : ∀ (x68 : Int32) (H : Heap) (locs : List Loc), (x68 = if x6 ≤ 0 then (if (x5 + (L_weights S x3)) ≤ (L_bears S x3 (S 0 (32 + x3.toNatClampNeg))) then 0 else 6) else (if a66 = 0 then (if (x5 + (L_weights S x3)) ≤ (L_bears S x3 (S 0 (32 + x3.toNatClampNeg))) then 0 else 6) else 5)) → (fI G.2.2.1 A s.heap (jn w0 (lW G.2.2.2 la S)) H locs) → W p G.1 e ({ frames := 1, cells := 0, slots := 0, locals := 25 }) s m args below meth c H locs 0 0 Q (F0 m 307 ls [.int x68]) := by
                    intro x68 H locs ex68 hI
                    have HE : L_why S uj = x68 := by subst ex68 ea66 ex6 ex5 ex4 ex3 ex2; exact (if_pos c1).trans ((if_neg c7).trans ((if_neg c8).trans ((if_pos c63).trans ((if_neg c64).trans ((if_pos c65))))))
                    exact rt_i hx hb hr hlocks hI hA hQ ⟨by rw [HE], rfl⟩ (Nat.zero_le _) (Nat.zero_le _) dL_why_307
                  refine lv_if_le (tgt := 272) hx hb dL_why_260 (by decide) (fun c70 => ?_) (fun c70 => ?_)
                  · refine lv_iload hx hb dL_why_272 (lv_at hl 2 rfl) ?_
                    refine lv_aload_n hx hb dL_why_274 rfl (lv_at hl 8 rfl) ?_
                    refine lv_aload_n hx hb dL_why_275 rfl (lv_at hl 9 rfl) ?_
                    refine lv_aload hx hb dL_why_276 (lv_at hl 10 rfl) ?_
                    refine lv_iload hx hb dL_why_278 (lv_at hl 4 rfl) ?_
                    refine cSv (rest := [.int x5]) hx hb hml hts hown hK hE hI (qL_weights G w0 la S x3 hn4 hnv) kw_100 ⟨Nat.le_of_ble_eq_true rfl, Nat.le_of_ble_eq_true rfl⟩ rfl rfl hl.1 rfl (Nat.le_of_ble_eq_true rfl) dL_why_280 ⟨Nat.zero_le _, Nat.zero_le _⟩ (fun H locs hI => ?_)
                    refine lv_iadd hx hb dL_why_283 ?_
                    refine lv_aload_n hx hb dL_why_284 rfl (lv_at hl 6 rfl) ?_
                    refine lv_aload_n hx hb dL_why_285 rfl (lv_at hl 7 rfl) ?_
                    refine lv_iload hx hb dL_why_286 (lv_at hl 4 rfl) ?_
                    refine lv_aload_n hx hb dL_why_288 rfl (lv_at hl 6 rfl) ?_
                    refine lv_bipush (v := 32) hx hb dL_why_289 (by decide) ?_
                    refine lv_iload hx hb dL_why_291 (lv_at hl 4 rfl) ?_
                    refine lv_iadd hx hb dL_why_293 ?_
                    refine gA (k := 0) (n := 57) (q := 32 + x3.toNatClampNeg) hx hb hK hI (by decide) rfl (vo_i 32 rfl (by subst ex3 ex2; exact hq) (by decide) (by decide)) (vo_c 32 rfl (by subst ex3 ex2; exact hq) (by decide)) dL_why_294 ?_
                    refine cSv (rest := [.int (x5 + (L_weights S x3))]) hx hb hml hts hown hK hE hI (qL_bears G w0 la S x3 (S 0 (32 + x3.toNatClampNeg)) (by subst ex3 ex2; exact hq)) kw_104 ⟨Nat.le_of_ble_eq_true rfl, Nat.le_of_ble_eq_true rfl⟩ rfl rfl hl.1 rfl (Nat.le_of_ble_eq_true rfl) dL_why_295 ⟨Nat.zero_le _, Nat.zero_le _⟩ (fun H locs hI => ?_)
                    refine lv_icmp_le (tgt := 306) hx hb dL_why_298 (by decide) (fun c71 => ?_) (fun c71 => ?_)
                    · refine lv_iconst (v := 0) hx hb dL_why_306 (by decide) ?_
                      exact hJ69 0 _ _ (by exact ((if_pos c70).trans (if_pos c71)).symm) hI
                    · refine lv_bipush (v := 6) hx hb dL_why_301 (by decide) ?_
                      refine lv_goto (tgt := 307) hx hb dL_why_303 (by decide) ?_
                      exact hJ69 6 _ _ (by exact ((if_pos c70).trans (if_neg c71)).symm) hI
                  · refine lv_iload hx hb dL_why_263 (lv_at hl 0 rfl) ?_
                    refine lv_if_eq (tgt := 272) hx hb dL_why_265 (by decide) (fun c72 => ?_) (fun c72 => ?_)
                    · refine lv_iload hx hb dL_why_272 (lv_at hl 2 rfl) ?_
                      refine lv_aload_n hx hb dL_why_274 rfl (lv_at hl 8 rfl) ?_
                      refine lv_aload_n hx hb dL_why_275 rfl (lv_at hl 9 rfl) ?_
                      refine lv_aload hx hb dL_why_276 (lv_at hl 10 rfl) ?_
                      refine lv_iload hx hb dL_why_278 (lv_at hl 4 rfl) ?_
                      refine cSv (rest := [.int x5]) hx hb hml hts hown hK hE hI (qL_weights G w0 la S x3 hn4 hnv) kw_100 ⟨Nat.le_of_ble_eq_true rfl, Nat.le_of_ble_eq_true rfl⟩ rfl rfl hl.1 rfl (Nat.le_of_ble_eq_true rfl) dL_why_280 ⟨Nat.zero_le _, Nat.zero_le _⟩ (fun H locs hI => ?_)
                      refine lv_iadd hx hb dL_why_283 ?_
                      refine lv_aload_n hx hb dL_why_284 rfl (lv_at hl 6 rfl) ?_
                      refine lv_aload_n hx hb dL_why_285 rfl (lv_at hl 7 rfl) ?_
                      refine lv_iload hx hb dL_why_286 (lv_at hl 4 rfl) ?_
                      refine lv_aload_n hx hb dL_why_288 rfl (lv_at hl 6 rfl) ?_
                      refine lv_bipush (v := 32) hx hb dL_why_289 (by decide) ?_
                      refine lv_iload hx hb dL_why_291 (lv_at hl 4 rfl) ?_
                      refine lv_iadd hx hb dL_why_293 ?_
                      refine gA (k := 0) (n := 57) (q := 32 + x3.toNatClampNeg) hx hb hK hI (by decide) rfl (vo_i 32 rfl (by subst ex3 ex2; exact hq) (by decide) (by decide)) (vo_c 32 rfl (by subst ex3 ex2; exact hq) (by decide)) dL_why_294 ?_
                      refine cSv (rest := [.int (x5 + (L_weights S x3))]) hx hb hml hts hown hK hE hI (qL_bears G w0 la S x3 (S 0 (32 + x3.toNatClampNeg)) (by subst ex3 ex2; exact hq)) kw_104 ⟨Nat.le_of_ble_eq_true rfl, Nat.le_of_ble_eq_true rfl⟩ rfl rfl hl.1 rfl (Nat.le_of_ble_eq_true rfl) dL_why_295 ⟨Nat.zero_le _, Nat.zero_le _⟩ (fun H locs hI => ?_)
                      refine lv_icmp_le (tgt := 306) hx hb dL_why_298 (by decide) (fun c73 => ?_) (fun c73 => ?_)
                      · refine lv_iconst (v := 0) hx hb dL_why_306 (by decide) ?_
                        exact hJ69 0 _ _ (by exact ((if_neg c70).trans ((if_pos c72).trans (if_pos c73))).symm) hI
                      · refine lv_bipush (v := 6) hx hb dL_why_301 (by decide) ?_
                        refine lv_goto (tgt := 307) hx hb dL_why_303 (by decide) ?_
                        exact hJ69 6 _ _ (by exact ((if_neg c70).trans ((if_pos c72).trans (if_neg c73))).symm) hI
                    · refine lv_iconst (v := 5) hx hb dL_why_268 (by decide) ?_
                      refine lv_goto (tgt := 307) hx hb dL_why_269 (by decide) ?_
                      exact hJ69 5 _ _ (by exact ((if_neg c70).trans (if_neg c72)).symm) hI
                | succ k ih =>
                  intro n hnk i_ a66 H locs ls ei ea66 hI hl
                  subst ei
                  refine lv_iload hx hb dL_why_190 (lv_at hl 0 rfl) ?_
                  refine lv_aload hx hb dL_why_192 (lv_at hl 11 rfl) ?_
                  refine lv_iconst (v := 4) hx hb dL_why_194 (by decide) ?_
                  refine gA (k := 6) (n := 5) (q := 4) hx hb hK hI (by decide) rfl (by unfold vp_in; decide) (by decide) dL_why_195 ?_
                  refine lv_icmp_ge (tgt := 258) hx hb dL_why_196 (by decide) (fun h => absurd h (by rw [hn4]; exact nI_ge (by omega) (by omega))) (fun _ => ?_)
                  refine lv_iload hx hb dL_why_199 (lv_at hl 1 rfl) ?_
                  have hJ74 : W p G.1 e ({ frames := 1, cells := 0, slots := 0, locals := 25 }) s m args below meth c H locs 0 0 Q (F0 m 250 ls [.int (bI ((¬ (a66 = 0)) ∨ ((((S 3 n) - (S 3 n) / 8 * 8) = 1) ∧ (((((S 3 n) / 8) - ((S 3 n) / 8) / 16 * 16) = x3) ∧ (¬ ((((S 3 n) / 128) - ((S 3 n) / 128) / 2 * 2) = x2))))))]) := by
                    refine lv_istore (lv' := [(11, .int (bI ((¬ (a66 = 0)) ∨ ((((S 3 n) - (S 3 n) / 8 * 8) = 1) ∧ (((((S 3 n) / 8) - ((S 3 n) / 8) / 16 * 16) = x3) ∧ (¬ ((((S 3 n) / 128) - ((S 3 n) / 128) / 2 * 2) = x2))))))), (12, .int (nI n)), (10, .int x6), (9, .int x5), (8, .int x4), (7, .int x3), (6, .int x2), (0, .ref (la 0)), (1, .ref (la 1)), (2, .ref (la 3)), (3, .ref (la 4)), (4, .ref (la 6)), (5, .int uj)]) hx hb dL_why_250 hl (by decide) rfl (fun ls hl => ?_)
                    obtain ⟨x75, ex75⟩ : ∃ z : Int32, z = (nI n) + 1 := ⟨_, rfl⟩
                    refine lv_iinc (v := x75) (lv' := [(12, .int x75), (11, .int (bI ((¬ (a66 = 0)) ∨ ((((S 3 n) - (S 3 n) / 8 * 8) = 1) ∧ (((((S 3 n) / 8) - ((S 3 n) / 8) / 16 * 16) = x3) ∧ (¬ ((((S 3 n) / 128) - ((S 3 n) / 128) / 2 * 2) = x2))))))), (10, .int x6), (9, .int x5), (8, .int x4), (7, .int x3), (6, .int x2), (0, .ref (la 0)), (1, .ref (la 1)), (2, .ref (la 3)), (3, .ref (la 4)), (4, .ref (la 6)), (5, .int uj)]) hx hb dL_why_252 hl (k := 1) rfl (by rw [ex75]; rfl) (by decide) rfl (fun ls hl => ?_)
                    refine lv_goto (tgt := 190) hx hb dL_why_255 (by decide) ?_
                    have HE : L_isMet_s S x2 x3 n a66 = bI ((¬ (a66 = 0)) ∨ ((((S 3 n) - (S 3 n) / 8 * 8) = 1) ∧ (((((S 3 n) / 8) - ((S 3 n) / 8) / 16 * 16) = x3) ∧ (¬ ((((S 3 n) / 128) - ((S 3 n) / 128) / 2 * 2) = x2))))) := by subst ex75; exact rfl
                    exact ih (n + 1) (by omega) x75 (bI ((¬ (a66 = 0)) ∨ ((((S 3 n) - (S 3 n) / 8 * 8) = 1) ∧ (((((S 3 n) / 8) - ((S 3 n) / 8) / 16 * 16) = x3) ∧ (¬ ((((S 3 n) / 128) - ((S 3 n) / 128) / 2 * 2) = x2)))))) H locs ls (by rw [ex75]; exact nI_1 n) (by show _ = L_isMet_s S x2 x3 n (L_isMet_f S x2 x3 n); rw [← ea66]; exact HE.symm) hI (lv_sub hl [0, 1, 2, 3, 4, 5, 6, 7, 8, 9, 10, 11, 12] rfl)
                  refine lv_if_ne (tgt := 245) hx hb dL_why_201 (by decide) (fun c76 => ?_) (fun c76 => ?_)
                  · refine lv_iconst (v := 1) hx hb dL_why_245 (by decide) ?_
                    refine lv_goto (tgt := 250) hx hb dL_why_246 (by decide) ?_
                    have eb77 : (1 : Int32) = bI ((¬ (a66 = 0)) ∨ ((((S 3 n) - (S 3 n) / 8 * 8) = 1) ∧ (((((S 3 n) / 8) - ((S 3 n) / 8) / 16 * 16) = x3) ∧ (¬ ((((S 3 n) / 128) - ((S 3 n) / 128) / 2 * 2) = x2))))) := (bI_t (Or.inl c76)).symm
                    rw [eb77]
                    exact hJ74
                  · refine lv_aload_n hx hb dL_why_204 rfl (lv_at hl 9 rfl) ?_
                    refine lv_iload hx hb dL_why_205 (lv_at hl 0 rfl) ?_
                    refine gA (k := 3) (n := 8) (q := n) hx hb hK hI (by decide) rfl (vp_in_nI (Nat.lt_of_lt_of_le (show n < 8 by omega) (by decide)) (by decide)) (nI_clamp (Nat.lt_of_lt_of_le (show n < 8 by omega) (by decide))) dL_why_207 ?_
                    refine lv_bipush (v := 8) hx hb dL_why_208 (by decide) ?_
                    refine lv_irem hx hb dL_why_210 (by decide) ?_
                    refine lv_iconst (v := 1) hx hb dL_why_211 (by decide) ?_
                    refine lv_icmp_ne (tgt := 249) hx hb dL_why_212 (by decide) (fun c78 => ?_) (fun c78 => ?_)
                    · refine lv_iconst (v := 0) hx hb dL_why_249 (by decide) ?_
                      have eb79 : (0 : Int32) = bI ((¬ (a66 = 0)) ∨ ((((S 3 n) - (S 3 n) / 8 * 8) = 1) ∧ (((((S 3 n) / 8) - ((S 3 n) / 8) / 16 * 16) = x3) ∧ (¬ ((((S 3 n) / 128) - ((S 3 n) / 128) / 2 * 2) = x2))))) := (bI_f (fun k => k.elim (fun z => z c76) (fun k => c78 k.1))).symm
                      rw [eb79]
                      exact hJ74
                    · refine lv_aload_n hx hb dL_why_215 rfl (lv_at hl 9 rfl) ?_
                      refine lv_iload hx hb dL_why_216 (lv_at hl 0 rfl) ?_
                      refine gA (k := 3) (n := 8) (q := n) hx hb hK hI (by decide) rfl (vp_in_nI (Nat.lt_of_lt_of_le (show n < 8 by omega) (by decide)) (by decide)) (nI_clamp (Nat.lt_of_lt_of_le (show n < 8 by omega) (by decide))) dL_why_218 ?_
                      refine lv_bipush (v := 8) hx hb dL_why_219 (by decide) ?_
                      refine lv_idiv hx hb dL_why_221 (by decide) ?_
                      refine lv_bipush (v := 16) hx hb dL_why_222 (by decide) ?_
                      refine lv_irem hx hb dL_why_224 (by decide) ?_
                      refine lv_iload hx hb dL_why_225 (lv_at hl 5 rfl) ?_
                      refine lv_icmp_ne (tgt := 249) hx hb dL_why_227 (by decide) (fun c80 => ?_) (fun c80 => ?_)
                      · refine lv_iconst (v := 0) hx hb dL_why_249 (by decide) ?_
                        have eb81 : (0 : Int32) = bI ((¬ (a66 = 0)) ∨ ((((S 3 n) - (S 3 n) / 8 * 8) = 1) ∧ (((((S 3 n) / 8) - ((S 3 n) / 8) / 16 * 16) = x3) ∧ (¬ ((((S 3 n) / 128) - ((S 3 n) / 128) / 2 * 2) = x2))))) := (bI_f (fun k => k.elim (fun z => z c76) (fun k => (fun k => c80 k.1) k.2))).symm
                        rw [eb81]
                        exact hJ74
                      · refine lv_aload_n hx hb dL_why_230 rfl (lv_at hl 9 rfl) ?_
                        refine lv_iload hx hb dL_why_231 (lv_at hl 0 rfl) ?_
                        refine gA (k := 3) (n := 8) (q := n) hx hb hK hI (by decide) rfl (vp_in_nI (Nat.lt_of_lt_of_le (show n < 8 by omega) (by decide)) (by decide)) (nI_clamp (Nat.lt_of_lt_of_le (show n < 8 by omega) (by decide))) dL_why_233 ?_
                        refine lv_sipush (v := 128) hx hb dL_why_234 (by decide) ?_
                        refine lv_idiv hx hb dL_why_237 (by decide) ?_
                        refine lv_iconst (v := 2) hx hb dL_why_238 (by decide) ?_
                        refine lv_irem hx hb dL_why_239 (by decide) ?_
                        refine lv_iload hx hb dL_why_240 (lv_at hl 6 rfl) ?_
                        refine lv_icmp_eq (tgt := 249) hx hb dL_why_242 (by decide) (fun c82 => ?_) (fun c82 => ?_)
                        · refine lv_iconst (v := 0) hx hb dL_why_249 (by decide) ?_
                          have eb83 : (0 : Int32) = bI ((¬ (a66 = 0)) ∨ ((((S 3 n) - (S 3 n) / 8 * 8) = 1) ∧ (((((S 3 n) / 8) - ((S 3 n) / 8) / 16 * 16) = x3) ∧ (¬ ((((S 3 n) / 128) - ((S 3 n) / 128) / 2 * 2) = x2))))) := (bI_f (fun k => k.elim (fun z => z c76) (fun k => (fun k => (fun k => k c82) k.2) k.2))).symm
                          rw [eb83]
                          exact hJ74
                        · refine lv_iconst (v := 1) hx hb dL_why_245 (by decide) ?_
                          refine lv_goto (tgt := 250) hx hb dL_why_246 (by decide) ?_
                          have eb84 : (1 : Int32) = bI ((¬ (a66 = 0)) ∨ ((((S 3 n) - (S 3 n) / 8 * 8) = 1) ∧ (((((S 3 n) / 8) - ((S 3 n) / 8) / 16 * 16) = x3) ∧ (¬ ((((S 3 n) / 128) - ((S 3 n) / 128) / 2 * 2) = x2))))) := (bI_t (Or.inr ⟨c78, ⟨c80, c82⟩⟩)).symm
                          rw [eb84]
                          exact hJ74
              exact hL67 nv 0 (by omega) 0 0 H locs ls nI_0.symm rfl hI (lv_sub hl [0, 1, 2, 3, 4, 5, 6, 7, 8, 9, 10, 11, 12] rfl)
            · refine lv_iload hx hb dL_why_164 (lv_at hl 2 rfl) ?_
              refine lv_iconst (v := 1) hx hb dL_why_166 (by decide) ?_
              have hJ86 : ∀ (x85 : Int32), (x85 = if x4 = 1 then (if x5 ≤ 5000 then 4 else 3) else 4) → W p G.1 e ({ frames := 1, cells := 0, slots := 0, locals := 25 }) s m args below meth c H locs 0 0 Q (F0 m 183 ls [.int x85]) := by
                intro x85 ex85
                have HE : L_why S uj = x85 := by subst ex85 ex6 ex5 ex4 ex3 ex2; exact (if_pos c1).trans ((if_neg c7).trans ((if_neg c8).trans ((if_pos c63).trans ((if_neg c64).trans ((if_neg c65))))))
                exact rt_i hx hb hr hlocks hI hA hQ ⟨by rw [HE], rfl⟩ (Nat.zero_le _) (Nat.zero_le _) dL_why_183
              refine lv_icmp_ne (tgt := 182) hx hb dL_why_167 (by decide) (fun c87 => ?_) (fun c87 => ?_)
              · refine lv_iconst (v := 4) hx hb dL_why_182 (by decide) ?_
                exact hJ86 4 (by exact (if_neg c87).symm)
              · refine lv_iload hx hb dL_why_170 (lv_at hl 1 rfl) ?_
                refine lv_sipush (v := 5000) hx hb dL_why_172 (by decide) ?_
                refine lv_icmp_le (tgt := 182) hx hb dL_why_175 (by decide) (fun c88 => ?_) (fun c88 => ?_)
                · refine lv_iconst (v := 4) hx hb dL_why_182 (by decide) ?_
                  exact hJ86 4 (by exact ((if_pos c87).trans (if_pos c88)).symm)
                · refine lv_iconst (v := 3) hx hb dL_why_178 (by decide) ?_
                  refine lv_goto (tgt := 183) hx hb dL_why_179 (by decide) ?_
                  exact hJ86 3 (by exact ((if_pos c87).trans (if_neg c88)).symm)
          · refine lv_iload hx hb dL_why_131 (lv_at hl 1 rfl) ?_
            refine lv_sipush (v := 5000) hx hb dL_why_133 (by decide) ?_
            refine lv_icmp_gt (tgt := 164) hx hb dL_why_136 (by decide) (fun c89 => ?_) (fun c89 => ?_)
            · refine lv_iload hx hb dL_why_164 (lv_at hl 2 rfl) ?_
              refine lv_iconst (v := 1) hx hb dL_why_166 (by decide) ?_
              have hJ91 : ∀ (x90 : Int32), (x90 = if x4 = 1 then (if x5 ≤ 5000 then 4 else 3) else 4) → W p G.1 e ({ frames := 1, cells := 0, slots := 0, locals := 25 }) s m args below meth c H locs 0 0 Q (F0 m 183 ls [.int x90]) := by
                intro x90 ex90
                have HE : L_why S uj = x90 := by subst ex90 ex6 ex5 ex4 ex3 ex2; exact (if_pos c1).trans ((if_neg c7).trans ((if_neg c8).trans ((if_pos c63).trans ((if_pos c64).trans ((if_pos c89))))))
                exact rt_i hx hb hr hlocks hI hA hQ ⟨by rw [HE], rfl⟩ (Nat.zero_le _) (Nat.zero_le _) dL_why_183
              refine lv_icmp_ne (tgt := 182) hx hb dL_why_167 (by decide) (fun c92 => ?_) (fun c92 => ?_)
              · refine lv_iconst (v := 4) hx hb dL_why_182 (by decide) ?_
                exact hJ91 4 (by exact (if_neg c92).symm)
              · refine lv_iload hx hb dL_why_170 (lv_at hl 1 rfl) ?_
                refine lv_sipush (v := 5000) hx hb dL_why_172 (by decide) ?_
                refine lv_icmp_le (tgt := 182) hx hb dL_why_175 (by decide) (fun c93 => ?_) (fun c93 => ?_)
                · refine lv_iconst (v := 4) hx hb dL_why_182 (by decide) ?_
                  exact hJ91 4 (by exact ((if_pos c92).trans (if_pos c93)).symm)
                · refine lv_iconst (v := 3) hx hb dL_why_178 (by decide) ?_
                  refine lv_goto (tgt := 183) hx hb dL_why_179 (by decide) ?_
                  exact hJ91 3 (by exact ((if_pos c92).trans (if_neg c93)).symm)
            · refine lv_aload hx hb dL_why_139 (lv_at hl 9 rfl) ?_
              refine lv_iconst (v := 0) hx hb dL_why_141 (by decide) ?_
              refine gA (k := 6) (n := 5) (q := 0) hx hb hK hI (by decide) rfl (by unfold vp_in; decide) (by decide) dL_why_142 ?_
              refine lv_aload_n hx hb dL_why_143 rfl (lv_at hl 5 rfl) ?_
              refine lv_bipush (v := 40) hx hb dL_why_144 (by decide) ?_
              refine lv_bipush (v := 8) hx hb dL_why_146 (by decide) ?_
              refine lv_iload hx hb dL_why_148 (lv_at hl 4 rfl) ?_
              refine lv_imul hx hb dL_why_150 ?_
              refine lv_iadd hx hb dL_why_151 ?_
              refine lv_iload hx hb dL_why_152 (lv_at hl 3 rfl) ?_
              refine lv_iadd hx hb dL_why_154 ?_
              refine gA (k := 0) (n := 57) (q := ((40 + (8 * x2)) + x3).toNatClampNeg) hx hb hK hI (by decide) rfl (by subst ex6 ex5 ex4 ex3 ex2; exact hw) rfl dL_why_155 ?_
              refine lv_isub hx hb dL_why_156 ?_
              refine lv_aload hx hb dL_why_157 (lv_at hl 9 rfl) ?_
              refine lv_iconst (v := 2) hx hb dL_why_159 (by decide) ?_
              refine gA (k := 6) (n := 5) (q := 2) hx hb hK hI (by decide) rfl (by unfold vp_in; decide) (by decide) dL_why_160 ?_
              refine lv_icmp_ge (tgt := 184) hx hb dL_why_161 (by decide) (fun c94 => ?_) (fun c94 => ?_)
              · refine lv_iconst (v := 0) hx hb dL_why_184 (by decide) ?_
                refine lv_istore (lv' := [(11, .int 0), (10, .int x6), (9, .int x5), (8, .int x4), (7, .int x3), (6, .int x2), (0, .ref (la 0)), (1, .ref (la 1)), (2, .ref (la 3)), (3, .ref (la 4)), (4, .ref (la 6)), (5, .int uj)]) hx hb dL_why_185 hl (by decide) rfl (fun ls hl => ?_)
                refine lv_iconst (v := 0) hx hb dL_why_187 (by decide) ?_
                refine lv_istore (lv' := [(12, .int 0), (11, .int 0), (10, .int x6), (9, .int x5), (8, .int x4), (7, .int x3), (6, .int x2), (0, .ref (la 0)), (1, .ref (la 1)), (2, .ref (la 3)), (3, .ref (la 4)), (4, .ref (la 6)), (5, .int uj)]) hx hb dL_why_188 hl (by decide) rfl (fun ls hl => ?_)
                have hL96 : ∀ (k n : Nat), n + k = nv → ∀ (i_ : Int32) (a95 : Int32) (H : Heap) (locs : List Loc) (ls : Array Slot), (i_ = nI n) → (a95 = L_isMet_f S x2 x3 n) → (fI G.2.2.1 A s.heap (jn w0 (lW G.2.2.2 la S)) H locs) → (lv_has ls 13 [(12, .int i_), (11, .int a95), (10, .int x6), (9, .int x5), (8, .int x4), (7, .int x3), (6, .int x2), (0, .ref (la 0)), (1, .ref (la 1)), (2, .ref (la 3)), (3, .ref (la 4)), (4, .ref (la 6)), (5, .int uj)]) → W p G.1 e ({ frames := 1, cells := 0, slots := 0, locals := 25 }) s m args below meth c H locs 0 0 Q (F0 m 190 ls []) := by
                  intro k
                  induction k with
                  | zero =>
                    intro n hnk i_ a95 H locs ls ei ea95 hI hl
                    subst ei
                    refine lv_iload hx hb dL_why_190 (lv_at hl 0 rfl) ?_
                    refine lv_aload hx hb dL_why_192 (lv_at hl 11 rfl) ?_
                    refine lv_iconst (v := 4) hx hb dL_why_194 (by decide) ?_
                    refine gA (k := 6) (n := 5) (q := 4) hx hb hK hI (by decide) rfl (by unfold vp_in; decide) (by decide) dL_why_195 ?_
                    refine lv_icmp_ge (tgt := 258) hx hb dL_why_196 (by decide) (fun _ => ?_) (fun h => absurd (by rw [hn4]; exact nI_le (by omega) (by omega)) h)
                    have hn9 : n = (S 6 4).toNatClampNeg := by rw [hn4, nI_clamp (by omega)]; omega
                    rw [hn9] at ea95
                    have hl : lv_has ls 13 [(11, .int a95), (10, .int x6), (9, .int x5), (8, .int x4), (7, .int x3), (6, .int x2), (0, .ref (la 0)), (1, .ref (la 1)), (2, .ref (la 3)), (3, .ref (la 4)), (4, .ref (la 6)), (5, .int uj)] := lv_sub hl [1, 2, 3, 4, 5, 6, 7, 8, 9, 10, 11, 12] rfl
                    refine lv_iload hx hb dL_why_258 (lv_at hl 1 rfl) ?_
                    have hJ98 : ∀ (x97 : Int32) (H : Heap) (locs : List Loc), (x97 = if x6 ≤ 0 then (if (x5 + (L_weights S x3)) ≤ (L_bears S x3 (S 0 (32 + x3.toNatClampNeg))) then 0 else 6) else (if a95 = 0 then (if (x5 + (L_weights S x3)) ≤ (L_bears S x3 (S 0 (32 + x3.toNatClampNeg))) then 0 else 6) else 5)) → (fI G.2.2.1 A s.heap (jn w0 (lW G.2.2.2 la S)) H locs) → W p G.1 e ({ frames := 1, cells := 0, slots := 0, locals := 25 }) s m args below meth c H locs 0 0 Q (F0 m 307 ls [.int x97]) := by
                      intro x97 H locs ex97 hI
                      have HE : L_why S uj = x97 := by subst ex97 ea95 ex6 ex5 ex4 ex3 ex2; exact (if_pos c1).trans ((if_neg c7).trans ((if_neg c8).trans ((if_pos c63).trans ((if_pos c64).trans ((if_neg c89).trans ((if_pos c94)))))))
                      exact rt_i hx hb hr hlocks hI hA hQ ⟨by rw [HE], rfl⟩ (Nat.zero_le _) (Nat.zero_le _) dL_why_307
                    refine lv_if_le (tgt := 272) hx hb dL_why_260 (by decide) (fun c99 => ?_) (fun c99 => ?_)
                    · refine lv_iload hx hb dL_why_272 (lv_at hl 2 rfl) ?_
                      refine lv_aload_n hx hb dL_why_274 rfl (lv_at hl 8 rfl) ?_
                      refine lv_aload_n hx hb dL_why_275 rfl (lv_at hl 9 rfl) ?_
                      refine lv_aload hx hb dL_why_276 (lv_at hl 10 rfl) ?_
                      refine lv_iload hx hb dL_why_278 (lv_at hl 4 rfl) ?_
                      refine cSv (rest := [.int x5]) hx hb hml hts hown hK hE hI (qL_weights G w0 la S x3 hn4 hnv) kw_100 ⟨Nat.le_of_ble_eq_true rfl, Nat.le_of_ble_eq_true rfl⟩ rfl rfl hl.1 rfl (Nat.le_of_ble_eq_true rfl) dL_why_280 ⟨Nat.zero_le _, Nat.zero_le _⟩ (fun H locs hI => ?_)
                      refine lv_iadd hx hb dL_why_283 ?_
                      refine lv_aload_n hx hb dL_why_284 rfl (lv_at hl 6 rfl) ?_
                      refine lv_aload_n hx hb dL_why_285 rfl (lv_at hl 7 rfl) ?_
                      refine lv_iload hx hb dL_why_286 (lv_at hl 4 rfl) ?_
                      refine lv_aload_n hx hb dL_why_288 rfl (lv_at hl 6 rfl) ?_
                      refine lv_bipush (v := 32) hx hb dL_why_289 (by decide) ?_
                      refine lv_iload hx hb dL_why_291 (lv_at hl 4 rfl) ?_
                      refine lv_iadd hx hb dL_why_293 ?_
                      refine gA (k := 0) (n := 57) (q := 32 + x3.toNatClampNeg) hx hb hK hI (by decide) rfl (vo_i 32 rfl (by subst ex3 ex2; exact hq) (by decide) (by decide)) (vo_c 32 rfl (by subst ex3 ex2; exact hq) (by decide)) dL_why_294 ?_
                      refine cSv (rest := [.int (x5 + (L_weights S x3))]) hx hb hml hts hown hK hE hI (qL_bears G w0 la S x3 (S 0 (32 + x3.toNatClampNeg)) (by subst ex3 ex2; exact hq)) kw_104 ⟨Nat.le_of_ble_eq_true rfl, Nat.le_of_ble_eq_true rfl⟩ rfl rfl hl.1 rfl (Nat.le_of_ble_eq_true rfl) dL_why_295 ⟨Nat.zero_le _, Nat.zero_le _⟩ (fun H locs hI => ?_)
                      refine lv_icmp_le (tgt := 306) hx hb dL_why_298 (by decide) (fun c100 => ?_) (fun c100 => ?_)
                      · refine lv_iconst (v := 0) hx hb dL_why_306 (by decide) ?_
                        exact hJ98 0 _ _ (by exact ((if_pos c99).trans (if_pos c100)).symm) hI
                      · refine lv_bipush (v := 6) hx hb dL_why_301 (by decide) ?_
                        refine lv_goto (tgt := 307) hx hb dL_why_303 (by decide) ?_
                        exact hJ98 6 _ _ (by exact ((if_pos c99).trans (if_neg c100)).symm) hI
                    · refine lv_iload hx hb dL_why_263 (lv_at hl 0 rfl) ?_
                      refine lv_if_eq (tgt := 272) hx hb dL_why_265 (by decide) (fun c101 => ?_) (fun c101 => ?_)
                      · refine lv_iload hx hb dL_why_272 (lv_at hl 2 rfl) ?_
                        refine lv_aload_n hx hb dL_why_274 rfl (lv_at hl 8 rfl) ?_
                        refine lv_aload_n hx hb dL_why_275 rfl (lv_at hl 9 rfl) ?_
                        refine lv_aload hx hb dL_why_276 (lv_at hl 10 rfl) ?_
                        refine lv_iload hx hb dL_why_278 (lv_at hl 4 rfl) ?_
                        refine cSv (rest := [.int x5]) hx hb hml hts hown hK hE hI (qL_weights G w0 la S x3 hn4 hnv) kw_100 ⟨Nat.le_of_ble_eq_true rfl, Nat.le_of_ble_eq_true rfl⟩ rfl rfl hl.1 rfl (Nat.le_of_ble_eq_true rfl) dL_why_280 ⟨Nat.zero_le _, Nat.zero_le _⟩ (fun H locs hI => ?_)
                        refine lv_iadd hx hb dL_why_283 ?_
                        refine lv_aload_n hx hb dL_why_284 rfl (lv_at hl 6 rfl) ?_
                        refine lv_aload_n hx hb dL_why_285 rfl (lv_at hl 7 rfl) ?_
                        refine lv_iload hx hb dL_why_286 (lv_at hl 4 rfl) ?_
                        refine lv_aload_n hx hb dL_why_288 rfl (lv_at hl 6 rfl) ?_
                        refine lv_bipush (v := 32) hx hb dL_why_289 (by decide) ?_
                        refine lv_iload hx hb dL_why_291 (lv_at hl 4 rfl) ?_
                        refine lv_iadd hx hb dL_why_293 ?_
                        refine gA (k := 0) (n := 57) (q := 32 + x3.toNatClampNeg) hx hb hK hI (by decide) rfl (vo_i 32 rfl (by subst ex3 ex2; exact hq) (by decide) (by decide)) (vo_c 32 rfl (by subst ex3 ex2; exact hq) (by decide)) dL_why_294 ?_
                        refine cSv (rest := [.int (x5 + (L_weights S x3))]) hx hb hml hts hown hK hE hI (qL_bears G w0 la S x3 (S 0 (32 + x3.toNatClampNeg)) (by subst ex3 ex2; exact hq)) kw_104 ⟨Nat.le_of_ble_eq_true rfl, Nat.le_of_ble_eq_true rfl⟩ rfl rfl hl.1 rfl (Nat.le_of_ble_eq_true rfl) dL_why_295 ⟨Nat.zero_le _, Nat.zero_le _⟩ (fun H locs hI => ?_)
                        refine lv_icmp_le (tgt := 306) hx hb dL_why_298 (by decide) (fun c102 => ?_) (fun c102 => ?_)
                        · refine lv_iconst (v := 0) hx hb dL_why_306 (by decide) ?_
                          exact hJ98 0 _ _ (by exact ((if_neg c99).trans ((if_pos c101).trans (if_pos c102))).symm) hI
                        · refine lv_bipush (v := 6) hx hb dL_why_301 (by decide) ?_
                          refine lv_goto (tgt := 307) hx hb dL_why_303 (by decide) ?_
                          exact hJ98 6 _ _ (by exact ((if_neg c99).trans ((if_pos c101).trans (if_neg c102))).symm) hI
                      · refine lv_iconst (v := 5) hx hb dL_why_268 (by decide) ?_
                        refine lv_goto (tgt := 307) hx hb dL_why_269 (by decide) ?_
                        exact hJ98 5 _ _ (by exact ((if_neg c99).trans (if_neg c101)).symm) hI
                  | succ k ih =>
                    intro n hnk i_ a95 H locs ls ei ea95 hI hl
                    subst ei
                    refine lv_iload hx hb dL_why_190 (lv_at hl 0 rfl) ?_
                    refine lv_aload hx hb dL_why_192 (lv_at hl 11 rfl) ?_
                    refine lv_iconst (v := 4) hx hb dL_why_194 (by decide) ?_
                    refine gA (k := 6) (n := 5) (q := 4) hx hb hK hI (by decide) rfl (by unfold vp_in; decide) (by decide) dL_why_195 ?_
                    refine lv_icmp_ge (tgt := 258) hx hb dL_why_196 (by decide) (fun h => absurd h (by rw [hn4]; exact nI_ge (by omega) (by omega))) (fun _ => ?_)
                    refine lv_iload hx hb dL_why_199 (lv_at hl 1 rfl) ?_
                    have hJ103 : W p G.1 e ({ frames := 1, cells := 0, slots := 0, locals := 25 }) s m args below meth c H locs 0 0 Q (F0 m 250 ls [.int (bI ((¬ (a95 = 0)) ∨ ((((S 3 n) - (S 3 n) / 8 * 8) = 1) ∧ (((((S 3 n) / 8) - ((S 3 n) / 8) / 16 * 16) = x3) ∧ (¬ ((((S 3 n) / 128) - ((S 3 n) / 128) / 2 * 2) = x2))))))]) := by
                      refine lv_istore (lv' := [(11, .int (bI ((¬ (a95 = 0)) ∨ ((((S 3 n) - (S 3 n) / 8 * 8) = 1) ∧ (((((S 3 n) / 8) - ((S 3 n) / 8) / 16 * 16) = x3) ∧ (¬ ((((S 3 n) / 128) - ((S 3 n) / 128) / 2 * 2) = x2))))))), (12, .int (nI n)), (10, .int x6), (9, .int x5), (8, .int x4), (7, .int x3), (6, .int x2), (0, .ref (la 0)), (1, .ref (la 1)), (2, .ref (la 3)), (3, .ref (la 4)), (4, .ref (la 6)), (5, .int uj)]) hx hb dL_why_250 hl (by decide) rfl (fun ls hl => ?_)
                      obtain ⟨x104, ex104⟩ : ∃ z : Int32, z = (nI n) + 1 := ⟨_, rfl⟩
                      refine lv_iinc (v := x104) (lv' := [(12, .int x104), (11, .int (bI ((¬ (a95 = 0)) ∨ ((((S 3 n) - (S 3 n) / 8 * 8) = 1) ∧ (((((S 3 n) / 8) - ((S 3 n) / 8) / 16 * 16) = x3) ∧ (¬ ((((S 3 n) / 128) - ((S 3 n) / 128) / 2 * 2) = x2))))))), (10, .int x6), (9, .int x5), (8, .int x4), (7, .int x3), (6, .int x2), (0, .ref (la 0)), (1, .ref (la 1)), (2, .ref (la 3)), (3, .ref (la 4)), (4, .ref (la 6)), (5, .int uj)]) hx hb dL_why_252 hl (k := 1) rfl (by rw [ex104]; rfl) (by decide) rfl (fun ls hl => ?_)
                      refine lv_goto (tgt := 190) hx hb dL_why_255 (by decide) ?_
                      have HE : L_isMet_s S x2 x3 n a95 = bI ((¬ (a95 = 0)) ∨ ((((S 3 n) - (S 3 n) / 8 * 8) = 1) ∧ (((((S 3 n) / 8) - ((S 3 n) / 8) / 16 * 16) = x3) ∧ (¬ ((((S 3 n) / 128) - ((S 3 n) / 128) / 2 * 2) = x2))))) := by subst ex104; exact rfl
                      exact ih (n + 1) (by omega) x104 (bI ((¬ (a95 = 0)) ∨ ((((S 3 n) - (S 3 n) / 8 * 8) = 1) ∧ (((((S 3 n) / 8) - ((S 3 n) / 8) / 16 * 16) = x3) ∧ (¬ ((((S 3 n) / 128) - ((S 3 n) / 128) / 2 * 2) = x2)))))) H locs ls (by rw [ex104]; exact nI_1 n) (by show _ = L_isMet_s S x2 x3 n (L_isMet_f S x2 x3 n); rw [← ea95]; exact HE.symm) hI (lv_sub hl [0, 1, 2, 3, 4, 5, 6, 7, 8, 9, 10, 11, 12] rfl)
                    refine lv_if_ne (tgt := 245) hx hb dL_why_201 (by decide) (fun c105 => ?_) (fun c105 => ?_)
                    · refine lv_iconst (v := 1) hx hb dL_why_245 (by decide) ?_
                      refine lv_goto (tgt := 250) hx hb dL_why_246 (by decide) ?_
                      have eb106 : (1 : Int32) = bI ((¬ (a95 = 0)) ∨ ((((S 3 n) - (S 3 n) / 8 * 8) = 1) ∧ (((((S 3 n) / 8) - ((S 3 n) / 8) / 16 * 16) = x3) ∧ (¬ ((((S 3 n) / 128) - ((S 3 n) / 128) / 2 * 2) = x2))))) := (bI_t (Or.inl c105)).symm
                      rw [eb106]
                      exact hJ103
                    · refine lv_aload_n hx hb dL_why_204 rfl (lv_at hl 9 rfl) ?_
                      refine lv_iload hx hb dL_why_205 (lv_at hl 0 rfl) ?_
                      refine gA (k := 3) (n := 8) (q := n) hx hb hK hI (by decide) rfl (vp_in_nI (Nat.lt_of_lt_of_le (show n < 8 by omega) (by decide)) (by decide)) (nI_clamp (Nat.lt_of_lt_of_le (show n < 8 by omega) (by decide))) dL_why_207 ?_
                      refine lv_bipush (v := 8) hx hb dL_why_208 (by decide) ?_
                      refine lv_irem hx hb dL_why_210 (by decide) ?_
                      refine lv_iconst (v := 1) hx hb dL_why_211 (by decide) ?_
                      refine lv_icmp_ne (tgt := 249) hx hb dL_why_212 (by decide) (fun c107 => ?_) (fun c107 => ?_)
                      · refine lv_iconst (v := 0) hx hb dL_why_249 (by decide) ?_
                        have eb108 : (0 : Int32) = bI ((¬ (a95 = 0)) ∨ ((((S 3 n) - (S 3 n) / 8 * 8) = 1) ∧ (((((S 3 n) / 8) - ((S 3 n) / 8) / 16 * 16) = x3) ∧ (¬ ((((S 3 n) / 128) - ((S 3 n) / 128) / 2 * 2) = x2))))) := (bI_f (fun k => k.elim (fun z => z c105) (fun k => c107 k.1))).symm
                        rw [eb108]
                        exact hJ103
                      · refine lv_aload_n hx hb dL_why_215 rfl (lv_at hl 9 rfl) ?_
                        refine lv_iload hx hb dL_why_216 (lv_at hl 0 rfl) ?_
                        refine gA (k := 3) (n := 8) (q := n) hx hb hK hI (by decide) rfl (vp_in_nI (Nat.lt_of_lt_of_le (show n < 8 by omega) (by decide)) (by decide)) (nI_clamp (Nat.lt_of_lt_of_le (show n < 8 by omega) (by decide))) dL_why_218 ?_
                        refine lv_bipush (v := 8) hx hb dL_why_219 (by decide) ?_
                        refine lv_idiv hx hb dL_why_221 (by decide) ?_
                        refine lv_bipush (v := 16) hx hb dL_why_222 (by decide) ?_
                        refine lv_irem hx hb dL_why_224 (by decide) ?_
                        refine lv_iload hx hb dL_why_225 (lv_at hl 5 rfl) ?_
                        refine lv_icmp_ne (tgt := 249) hx hb dL_why_227 (by decide) (fun c109 => ?_) (fun c109 => ?_)
                        · refine lv_iconst (v := 0) hx hb dL_why_249 (by decide) ?_
                          have eb110 : (0 : Int32) = bI ((¬ (a95 = 0)) ∨ ((((S 3 n) - (S 3 n) / 8 * 8) = 1) ∧ (((((S 3 n) / 8) - ((S 3 n) / 8) / 16 * 16) = x3) ∧ (¬ ((((S 3 n) / 128) - ((S 3 n) / 128) / 2 * 2) = x2))))) := (bI_f (fun k => k.elim (fun z => z c105) (fun k => (fun k => c109 k.1) k.2))).symm
                          rw [eb110]
                          exact hJ103
                        · refine lv_aload_n hx hb dL_why_230 rfl (lv_at hl 9 rfl) ?_
                          refine lv_iload hx hb dL_why_231 (lv_at hl 0 rfl) ?_
                          refine gA (k := 3) (n := 8) (q := n) hx hb hK hI (by decide) rfl (vp_in_nI (Nat.lt_of_lt_of_le (show n < 8 by omega) (by decide)) (by decide)) (nI_clamp (Nat.lt_of_lt_of_le (show n < 8 by omega) (by decide))) dL_why_233 ?_
                          refine lv_sipush (v := 128) hx hb dL_why_234 (by decide) ?_
                          refine lv_idiv hx hb dL_why_237 (by decide) ?_
                          refine lv_iconst (v := 2) hx hb dL_why_238 (by decide) ?_
                          refine lv_irem hx hb dL_why_239 (by decide) ?_
                          refine lv_iload hx hb dL_why_240 (lv_at hl 6 rfl) ?_
                          refine lv_icmp_eq (tgt := 249) hx hb dL_why_242 (by decide) (fun c111 => ?_) (fun c111 => ?_)
                          · refine lv_iconst (v := 0) hx hb dL_why_249 (by decide) ?_
                            have eb112 : (0 : Int32) = bI ((¬ (a95 = 0)) ∨ ((((S 3 n) - (S 3 n) / 8 * 8) = 1) ∧ (((((S 3 n) / 8) - ((S 3 n) / 8) / 16 * 16) = x3) ∧ (¬ ((((S 3 n) / 128) - ((S 3 n) / 128) / 2 * 2) = x2))))) := (bI_f (fun k => k.elim (fun z => z c105) (fun k => (fun k => (fun k => k c111) k.2) k.2))).symm
                            rw [eb112]
                            exact hJ103
                          · refine lv_iconst (v := 1) hx hb dL_why_245 (by decide) ?_
                            refine lv_goto (tgt := 250) hx hb dL_why_246 (by decide) ?_
                            have eb113 : (1 : Int32) = bI ((¬ (a95 = 0)) ∨ ((((S 3 n) - (S 3 n) / 8 * 8) = 1) ∧ (((((S 3 n) / 8) - ((S 3 n) / 8) / 16 * 16) = x3) ∧ (¬ ((((S 3 n) / 128) - ((S 3 n) / 128) / 2 * 2) = x2))))) := (bI_t (Or.inr ⟨c107, ⟨c109, c111⟩⟩)).symm
                            rw [eb113]
                            exact hJ103
                exact hL96 nv 0 (by omega) 0 0 H locs ls nI_0.symm rfl hI (lv_sub hl [0, 1, 2, 3, 4, 5, 6, 7, 8, 9, 10, 11, 12] rfl)
              · refine lv_iload hx hb dL_why_164 (lv_at hl 2 rfl) ?_
                refine lv_iconst (v := 1) hx hb dL_why_166 (by decide) ?_
                have hJ115 : ∀ (x114 : Int32), (x114 = if x4 = 1 then (if x5 ≤ 5000 then 4 else 3) else 4) → W p G.1 e ({ frames := 1, cells := 0, slots := 0, locals := 25 }) s m args below meth c H locs 0 0 Q (F0 m 183 ls [.int x114]) := by
                  intro x114 ex114
                  have HE : L_why S uj = x114 := by subst ex114 ex6 ex5 ex4 ex3 ex2; exact (if_pos c1).trans ((if_neg c7).trans ((if_neg c8).trans ((if_pos c63).trans ((if_pos c64).trans ((if_neg c89).trans ((if_neg c94)))))))
                  exact rt_i hx hb hr hlocks hI hA hQ ⟨by rw [HE], rfl⟩ (Nat.zero_le _) (Nat.zero_le _) dL_why_183
                refine lv_icmp_ne (tgt := 182) hx hb dL_why_167 (by decide) (fun c116 => ?_) (fun c116 => ?_)
                · refine lv_iconst (v := 4) hx hb dL_why_182 (by decide) ?_
                  exact hJ115 4 (by exact (if_neg c116).symm)
                · refine lv_iload hx hb dL_why_170 (lv_at hl 1 rfl) ?_
                  refine lv_sipush (v := 5000) hx hb dL_why_172 (by decide) ?_
                  refine lv_icmp_le (tgt := 182) hx hb dL_why_175 (by decide) (fun c117 => ?_) (fun c117 => ?_)
                  · refine lv_iconst (v := 4) hx hb dL_why_182 (by decide) ?_
                    exact hJ115 4 (by exact ((if_pos c116).trans (if_pos c117)).symm)
                  · refine lv_iconst (v := 3) hx hb dL_why_178 (by decide) ?_
                    refine lv_goto (tgt := 183) hx hb dL_why_179 (by decide) ?_
                    exact hJ115 3 (by exact ((if_pos c116).trans (if_neg c117)).symm)
        · refine lv_aload hx hb dL_why_95 (lv_at hl 9 rfl) ?_
          refine lv_iconst (v := 0) hx hb dL_why_97 (by decide) ?_
          refine gA (k := 6) (n := 5) (q := 0) hx hb hK hI (by decide) rfl (by unfold vp_in; decide) (by decide) dL_why_98 ?_
          refine lv_sipush (v := 1440) hx hb dL_why_99 (by decide) ?_
          refine lv_irem hx hb dL_why_102 (by decide) ?_
          refine lv_sipush (v := 479) hx hb dL_why_103 (by decide) ?_
          refine lv_icmp_le (tgt := 125) hx hb dL_why_106 (by decide) (fun c118 => ?_) (fun c118 => ?_)
          · refine lv_iload hx hb dL_why_125 (lv_at hl 2 rfl) ?_
            refine lv_iconst (v := 1) hx hb dL_why_127 (by decide) ?_
            refine lv_icmp_ne (tgt := 139) hx hb dL_why_128 (by decide) (fun c119 => ?_) (fun c119 => ?_)
            · refine lv_aload hx hb dL_why_139 (lv_at hl 9 rfl) ?_
              refine lv_iconst (v := 0) hx hb dL_why_141 (by decide) ?_
              refine gA (k := 6) (n := 5) (q := 0) hx hb hK hI (by decide) rfl (by unfold vp_in; decide) (by decide) dL_why_142 ?_
              refine lv_aload_n hx hb dL_why_143 rfl (lv_at hl 5 rfl) ?_
              refine lv_bipush (v := 40) hx hb dL_why_144 (by decide) ?_
              refine lv_bipush (v := 8) hx hb dL_why_146 (by decide) ?_
              refine lv_iload hx hb dL_why_148 (lv_at hl 4 rfl) ?_
              refine lv_imul hx hb dL_why_150 ?_
              refine lv_iadd hx hb dL_why_151 ?_
              refine lv_iload hx hb dL_why_152 (lv_at hl 3 rfl) ?_
              refine lv_iadd hx hb dL_why_154 ?_
              refine gA (k := 0) (n := 57) (q := ((40 + (8 * x2)) + x3).toNatClampNeg) hx hb hK hI (by decide) rfl (by subst ex6 ex5 ex4 ex3 ex2; exact hw) rfl dL_why_155 ?_
              refine lv_isub hx hb dL_why_156 ?_
              refine lv_aload hx hb dL_why_157 (lv_at hl 9 rfl) ?_
              refine lv_iconst (v := 2) hx hb dL_why_159 (by decide) ?_
              refine gA (k := 6) (n := 5) (q := 2) hx hb hK hI (by decide) rfl (by unfold vp_in; decide) (by decide) dL_why_160 ?_
              refine lv_icmp_ge (tgt := 184) hx hb dL_why_161 (by decide) (fun c120 => ?_) (fun c120 => ?_)
              · refine lv_iconst (v := 0) hx hb dL_why_184 (by decide) ?_
                refine lv_istore (lv' := [(11, .int 0), (10, .int x6), (9, .int x5), (8, .int x4), (7, .int x3), (6, .int x2), (0, .ref (la 0)), (1, .ref (la 1)), (2, .ref (la 3)), (3, .ref (la 4)), (4, .ref (la 6)), (5, .int uj)]) hx hb dL_why_185 hl (by decide) rfl (fun ls hl => ?_)
                refine lv_iconst (v := 0) hx hb dL_why_187 (by decide) ?_
                refine lv_istore (lv' := [(12, .int 0), (11, .int 0), (10, .int x6), (9, .int x5), (8, .int x4), (7, .int x3), (6, .int x2), (0, .ref (la 0)), (1, .ref (la 1)), (2, .ref (la 3)), (3, .ref (la 4)), (4, .ref (la 6)), (5, .int uj)]) hx hb dL_why_188 hl (by decide) rfl (fun ls hl => ?_)
                have hL122 : ∀ (k n : Nat), n + k = nv → ∀ (i_ : Int32) (a121 : Int32) (H : Heap) (locs : List Loc) (ls : Array Slot), (i_ = nI n) → (a121 = L_isMet_f S x2 x3 n) → (fI G.2.2.1 A s.heap (jn w0 (lW G.2.2.2 la S)) H locs) → (lv_has ls 13 [(12, .int i_), (11, .int a121), (10, .int x6), (9, .int x5), (8, .int x4), (7, .int x3), (6, .int x2), (0, .ref (la 0)), (1, .ref (la 1)), (2, .ref (la 3)), (3, .ref (la 4)), (4, .ref (la 6)), (5, .int uj)]) → W p G.1 e ({ frames := 1, cells := 0, slots := 0, locals := 25 }) s m args below meth c H locs 0 0 Q (F0 m 190 ls []) := by
                  intro k
                  induction k with
                  | zero =>
                    intro n hnk i_ a121 H locs ls ei ea121 hI hl
                    subst ei
                    refine lv_iload hx hb dL_why_190 (lv_at hl 0 rfl) ?_
                    refine lv_aload hx hb dL_why_192 (lv_at hl 11 rfl) ?_
                    refine lv_iconst (v := 4) hx hb dL_why_194 (by decide) ?_
                    refine gA (k := 6) (n := 5) (q := 4) hx hb hK hI (by decide) rfl (by unfold vp_in; decide) (by decide) dL_why_195 ?_
                    refine lv_icmp_ge (tgt := 258) hx hb dL_why_196 (by decide) (fun _ => ?_) (fun h => absurd (by rw [hn4]; exact nI_le (by omega) (by omega)) h)
                    have hn9 : n = (S 6 4).toNatClampNeg := by rw [hn4, nI_clamp (by omega)]; omega
                    rw [hn9] at ea121
                    have hl : lv_has ls 13 [(11, .int a121), (10, .int x6), (9, .int x5), (8, .int x4), (7, .int x3), (6, .int x2), (0, .ref (la 0)), (1, .ref (la 1)), (2, .ref (la 3)), (3, .ref (la 4)), (4, .ref (la 6)), (5, .int uj)] := lv_sub hl [1, 2, 3, 4, 5, 6, 7, 8, 9, 10, 11, 12] rfl
                    refine lv_iload hx hb dL_why_258 (lv_at hl 1 rfl) ?_
                    have hJ124 : ∀ (x123 : Int32) (H : Heap) (locs : List Loc), (x123 = if x6 ≤ 0 then (if (x5 + (L_weights S x3)) ≤ (L_bears S x3 (S 0 (32 + x3.toNatClampNeg))) then 0 else 6) else (if a121 = 0 then (if (x5 + (L_weights S x3)) ≤ (L_bears S x3 (S 0 (32 + x3.toNatClampNeg))) then 0 else 6) else 5)) → (fI G.2.2.1 A s.heap (jn w0 (lW G.2.2.2 la S)) H locs) → W p G.1 e ({ frames := 1, cells := 0, slots := 0, locals := 25 }) s m args below meth c H locs 0 0 Q (F0 m 307 ls [.int x123]) := by
                      intro x123 H locs ex123 hI
                      have HE : L_why S uj = x123 := by subst ex123 ea121 ex6 ex5 ex4 ex3 ex2; exact (if_pos c1).trans ((if_neg c7).trans ((if_neg c8).trans ((if_neg c63).trans ((if_pos c118).trans ((if_neg c119).trans ((if_pos c120)))))))
                      exact rt_i hx hb hr hlocks hI hA hQ ⟨by rw [HE], rfl⟩ (Nat.zero_le _) (Nat.zero_le _) dL_why_307
                    refine lv_if_le (tgt := 272) hx hb dL_why_260 (by decide) (fun c125 => ?_) (fun c125 => ?_)
                    · refine lv_iload hx hb dL_why_272 (lv_at hl 2 rfl) ?_
                      refine lv_aload_n hx hb dL_why_274 rfl (lv_at hl 8 rfl) ?_
                      refine lv_aload_n hx hb dL_why_275 rfl (lv_at hl 9 rfl) ?_
                      refine lv_aload hx hb dL_why_276 (lv_at hl 10 rfl) ?_
                      refine lv_iload hx hb dL_why_278 (lv_at hl 4 rfl) ?_
                      refine cSv (rest := [.int x5]) hx hb hml hts hown hK hE hI (qL_weights G w0 la S x3 hn4 hnv) kw_100 ⟨Nat.le_of_ble_eq_true rfl, Nat.le_of_ble_eq_true rfl⟩ rfl rfl hl.1 rfl (Nat.le_of_ble_eq_true rfl) dL_why_280 ⟨Nat.zero_le _, Nat.zero_le _⟩ (fun H locs hI => ?_)
                      refine lv_iadd hx hb dL_why_283 ?_
                      refine lv_aload_n hx hb dL_why_284 rfl (lv_at hl 6 rfl) ?_
                      refine lv_aload_n hx hb dL_why_285 rfl (lv_at hl 7 rfl) ?_
                      refine lv_iload hx hb dL_why_286 (lv_at hl 4 rfl) ?_
                      refine lv_aload_n hx hb dL_why_288 rfl (lv_at hl 6 rfl) ?_
                      refine lv_bipush (v := 32) hx hb dL_why_289 (by decide) ?_
                      refine lv_iload hx hb dL_why_291 (lv_at hl 4 rfl) ?_
                      refine lv_iadd hx hb dL_why_293 ?_
                      refine gA (k := 0) (n := 57) (q := 32 + x3.toNatClampNeg) hx hb hK hI (by decide) rfl (vo_i 32 rfl (by subst ex3 ex2; exact hq) (by decide) (by decide)) (vo_c 32 rfl (by subst ex3 ex2; exact hq) (by decide)) dL_why_294 ?_
                      refine cSv (rest := [.int (x5 + (L_weights S x3))]) hx hb hml hts hown hK hE hI (qL_bears G w0 la S x3 (S 0 (32 + x3.toNatClampNeg)) (by subst ex3 ex2; exact hq)) kw_104 ⟨Nat.le_of_ble_eq_true rfl, Nat.le_of_ble_eq_true rfl⟩ rfl rfl hl.1 rfl (Nat.le_of_ble_eq_true rfl) dL_why_295 ⟨Nat.zero_le _, Nat.zero_le _⟩ (fun H locs hI => ?_)
                      refine lv_icmp_le (tgt := 306) hx hb dL_why_298 (by decide) (fun c126 => ?_) (fun c126 => ?_)
                      · refine lv_iconst (v := 0) hx hb dL_why_306 (by decide) ?_
                        exact hJ124 0 _ _ (by exact ((if_pos c125).trans (if_pos c126)).symm) hI
                      · refine lv_bipush (v := 6) hx hb dL_why_301 (by decide) ?_
                        refine lv_goto (tgt := 307) hx hb dL_why_303 (by decide) ?_
                        exact hJ124 6 _ _ (by exact ((if_pos c125).trans (if_neg c126)).symm) hI
                    · refine lv_iload hx hb dL_why_263 (lv_at hl 0 rfl) ?_
                      refine lv_if_eq (tgt := 272) hx hb dL_why_265 (by decide) (fun c127 => ?_) (fun c127 => ?_)
                      · refine lv_iload hx hb dL_why_272 (lv_at hl 2 rfl) ?_
                        refine lv_aload_n hx hb dL_why_274 rfl (lv_at hl 8 rfl) ?_
                        refine lv_aload_n hx hb dL_why_275 rfl (lv_at hl 9 rfl) ?_
                        refine lv_aload hx hb dL_why_276 (lv_at hl 10 rfl) ?_
                        refine lv_iload hx hb dL_why_278 (lv_at hl 4 rfl) ?_
                        refine cSv (rest := [.int x5]) hx hb hml hts hown hK hE hI (qL_weights G w0 la S x3 hn4 hnv) kw_100 ⟨Nat.le_of_ble_eq_true rfl, Nat.le_of_ble_eq_true rfl⟩ rfl rfl hl.1 rfl (Nat.le_of_ble_eq_true rfl) dL_why_280 ⟨Nat.zero_le _, Nat.zero_le _⟩ (fun H locs hI => ?_)
                        refine lv_iadd hx hb dL_why_283 ?_
                        refine lv_aload_n hx hb dL_why_284 rfl (lv_at hl 6 rfl) ?_
                        refine lv_aload_n hx hb dL_why_285 rfl (lv_at hl 7 rfl) ?_
                        refine lv_iload hx hb dL_why_286 (lv_at hl 4 rfl) ?_
                        refine lv_aload_n hx hb dL_why_288 rfl (lv_at hl 6 rfl) ?_
                        refine lv_bipush (v := 32) hx hb dL_why_289 (by decide) ?_
                        refine lv_iload hx hb dL_why_291 (lv_at hl 4 rfl) ?_
                        refine lv_iadd hx hb dL_why_293 ?_
                        refine gA (k := 0) (n := 57) (q := 32 + x3.toNatClampNeg) hx hb hK hI (by decide) rfl (vo_i 32 rfl (by subst ex3 ex2; exact hq) (by decide) (by decide)) (vo_c 32 rfl (by subst ex3 ex2; exact hq) (by decide)) dL_why_294 ?_
                        refine cSv (rest := [.int (x5 + (L_weights S x3))]) hx hb hml hts hown hK hE hI (qL_bears G w0 la S x3 (S 0 (32 + x3.toNatClampNeg)) (by subst ex3 ex2; exact hq)) kw_104 ⟨Nat.le_of_ble_eq_true rfl, Nat.le_of_ble_eq_true rfl⟩ rfl rfl hl.1 rfl (Nat.le_of_ble_eq_true rfl) dL_why_295 ⟨Nat.zero_le _, Nat.zero_le _⟩ (fun H locs hI => ?_)
                        refine lv_icmp_le (tgt := 306) hx hb dL_why_298 (by decide) (fun c128 => ?_) (fun c128 => ?_)
                        · refine lv_iconst (v := 0) hx hb dL_why_306 (by decide) ?_
                          exact hJ124 0 _ _ (by exact ((if_neg c125).trans ((if_pos c127).trans (if_pos c128))).symm) hI
                        · refine lv_bipush (v := 6) hx hb dL_why_301 (by decide) ?_
                          refine lv_goto (tgt := 307) hx hb dL_why_303 (by decide) ?_
                          exact hJ124 6 _ _ (by exact ((if_neg c125).trans ((if_pos c127).trans (if_neg c128))).symm) hI
                      · refine lv_iconst (v := 5) hx hb dL_why_268 (by decide) ?_
                        refine lv_goto (tgt := 307) hx hb dL_why_269 (by decide) ?_
                        exact hJ124 5 _ _ (by exact ((if_neg c125).trans (if_neg c127)).symm) hI
                  | succ k ih =>
                    intro n hnk i_ a121 H locs ls ei ea121 hI hl
                    subst ei
                    refine lv_iload hx hb dL_why_190 (lv_at hl 0 rfl) ?_
                    refine lv_aload hx hb dL_why_192 (lv_at hl 11 rfl) ?_
                    refine lv_iconst (v := 4) hx hb dL_why_194 (by decide) ?_
                    refine gA (k := 6) (n := 5) (q := 4) hx hb hK hI (by decide) rfl (by unfold vp_in; decide) (by decide) dL_why_195 ?_
                    refine lv_icmp_ge (tgt := 258) hx hb dL_why_196 (by decide) (fun h => absurd h (by rw [hn4]; exact nI_ge (by omega) (by omega))) (fun _ => ?_)
                    refine lv_iload hx hb dL_why_199 (lv_at hl 1 rfl) ?_
                    have hJ129 : W p G.1 e ({ frames := 1, cells := 0, slots := 0, locals := 25 }) s m args below meth c H locs 0 0 Q (F0 m 250 ls [.int (bI ((¬ (a121 = 0)) ∨ ((((S 3 n) - (S 3 n) / 8 * 8) = 1) ∧ (((((S 3 n) / 8) - ((S 3 n) / 8) / 16 * 16) = x3) ∧ (¬ ((((S 3 n) / 128) - ((S 3 n) / 128) / 2 * 2) = x2))))))]) := by
                      refine lv_istore (lv' := [(11, .int (bI ((¬ (a121 = 0)) ∨ ((((S 3 n) - (S 3 n) / 8 * 8) = 1) ∧ (((((S 3 n) / 8) - ((S 3 n) / 8) / 16 * 16) = x3) ∧ (¬ ((((S 3 n) / 128) - ((S 3 n) / 128) / 2 * 2) = x2))))))), (12, .int (nI n)), (10, .int x6), (9, .int x5), (8, .int x4), (7, .int x3), (6, .int x2), (0, .ref (la 0)), (1, .ref (la 1)), (2, .ref (la 3)), (3, .ref (la 4)), (4, .ref (la 6)), (5, .int uj)]) hx hb dL_why_250 hl (by decide) rfl (fun ls hl => ?_)
                      obtain ⟨x130, ex130⟩ : ∃ z : Int32, z = (nI n) + 1 := ⟨_, rfl⟩
                      refine lv_iinc (v := x130) (lv' := [(12, .int x130), (11, .int (bI ((¬ (a121 = 0)) ∨ ((((S 3 n) - (S 3 n) / 8 * 8) = 1) ∧ (((((S 3 n) / 8) - ((S 3 n) / 8) / 16 * 16) = x3) ∧ (¬ ((((S 3 n) / 128) - ((S 3 n) / 128) / 2 * 2) = x2))))))), (10, .int x6), (9, .int x5), (8, .int x4), (7, .int x3), (6, .int x2), (0, .ref (la 0)), (1, .ref (la 1)), (2, .ref (la 3)), (3, .ref (la 4)), (4, .ref (la 6)), (5, .int uj)]) hx hb dL_why_252 hl (k := 1) rfl (by rw [ex130]; rfl) (by decide) rfl (fun ls hl => ?_)
                      refine lv_goto (tgt := 190) hx hb dL_why_255 (by decide) ?_
                      have HE : L_isMet_s S x2 x3 n a121 = bI ((¬ (a121 = 0)) ∨ ((((S 3 n) - (S 3 n) / 8 * 8) = 1) ∧ (((((S 3 n) / 8) - ((S 3 n) / 8) / 16 * 16) = x3) ∧ (¬ ((((S 3 n) / 128) - ((S 3 n) / 128) / 2 * 2) = x2))))) := by subst ex130; exact rfl
                      exact ih (n + 1) (by omega) x130 (bI ((¬ (a121 = 0)) ∨ ((((S 3 n) - (S 3 n) / 8 * 8) = 1) ∧ (((((S 3 n) / 8) - ((S 3 n) / 8) / 16 * 16) = x3) ∧ (¬ ((((S 3 n) / 128) - ((S 3 n) / 128) / 2 * 2) = x2)))))) H locs ls (by rw [ex130]; exact nI_1 n) (by show _ = L_isMet_s S x2 x3 n (L_isMet_f S x2 x3 n); rw [← ea121]; exact HE.symm) hI (lv_sub hl [0, 1, 2, 3, 4, 5, 6, 7, 8, 9, 10, 11, 12] rfl)
                    refine lv_if_ne (tgt := 245) hx hb dL_why_201 (by decide) (fun c131 => ?_) (fun c131 => ?_)
                    · refine lv_iconst (v := 1) hx hb dL_why_245 (by decide) ?_
                      refine lv_goto (tgt := 250) hx hb dL_why_246 (by decide) ?_
                      have eb132 : (1 : Int32) = bI ((¬ (a121 = 0)) ∨ ((((S 3 n) - (S 3 n) / 8 * 8) = 1) ∧ (((((S 3 n) / 8) - ((S 3 n) / 8) / 16 * 16) = x3) ∧ (¬ ((((S 3 n) / 128) - ((S 3 n) / 128) / 2 * 2) = x2))))) := (bI_t (Or.inl c131)).symm
                      rw [eb132]
                      exact hJ129
                    · refine lv_aload_n hx hb dL_why_204 rfl (lv_at hl 9 rfl) ?_
                      refine lv_iload hx hb dL_why_205 (lv_at hl 0 rfl) ?_
                      refine gA (k := 3) (n := 8) (q := n) hx hb hK hI (by decide) rfl (vp_in_nI (Nat.lt_of_lt_of_le (show n < 8 by omega) (by decide)) (by decide)) (nI_clamp (Nat.lt_of_lt_of_le (show n < 8 by omega) (by decide))) dL_why_207 ?_
                      refine lv_bipush (v := 8) hx hb dL_why_208 (by decide) ?_
                      refine lv_irem hx hb dL_why_210 (by decide) ?_
                      refine lv_iconst (v := 1) hx hb dL_why_211 (by decide) ?_
                      refine lv_icmp_ne (tgt := 249) hx hb dL_why_212 (by decide) (fun c133 => ?_) (fun c133 => ?_)
                      · refine lv_iconst (v := 0) hx hb dL_why_249 (by decide) ?_
                        have eb134 : (0 : Int32) = bI ((¬ (a121 = 0)) ∨ ((((S 3 n) - (S 3 n) / 8 * 8) = 1) ∧ (((((S 3 n) / 8) - ((S 3 n) / 8) / 16 * 16) = x3) ∧ (¬ ((((S 3 n) / 128) - ((S 3 n) / 128) / 2 * 2) = x2))))) := (bI_f (fun k => k.elim (fun z => z c131) (fun k => c133 k.1))).symm
                        rw [eb134]
                        exact hJ129
                      · refine lv_aload_n hx hb dL_why_215 rfl (lv_at hl 9 rfl) ?_
                        refine lv_iload hx hb dL_why_216 (lv_at hl 0 rfl) ?_
                        refine gA (k := 3) (n := 8) (q := n) hx hb hK hI (by decide) rfl (vp_in_nI (Nat.lt_of_lt_of_le (show n < 8 by omega) (by decide)) (by decide)) (nI_clamp (Nat.lt_of_lt_of_le (show n < 8 by omega) (by decide))) dL_why_218 ?_
                        refine lv_bipush (v := 8) hx hb dL_why_219 (by decide) ?_
                        refine lv_idiv hx hb dL_why_221 (by decide) ?_
                        refine lv_bipush (v := 16) hx hb dL_why_222 (by decide) ?_
                        refine lv_irem hx hb dL_why_224 (by decide) ?_
                        refine lv_iload hx hb dL_why_225 (lv_at hl 5 rfl) ?_
                        refine lv_icmp_ne (tgt := 249) hx hb dL_why_227 (by decide) (fun c135 => ?_) (fun c135 => ?_)
                        · refine lv_iconst (v := 0) hx hb dL_why_249 (by decide) ?_
                          have eb136 : (0 : Int32) = bI ((¬ (a121 = 0)) ∨ ((((S 3 n) - (S 3 n) / 8 * 8) = 1) ∧ (((((S 3 n) / 8) - ((S 3 n) / 8) / 16 * 16) = x3) ∧ (¬ ((((S 3 n) / 128) - ((S 3 n) / 128) / 2 * 2) = x2))))) := (bI_f (fun k => k.elim (fun z => z c131) (fun k => (fun k => c135 k.1) k.2))).symm
                          rw [eb136]
                          exact hJ129
                        · refine lv_aload_n hx hb dL_why_230 rfl (lv_at hl 9 rfl) ?_
                          refine lv_iload hx hb dL_why_231 (lv_at hl 0 rfl) ?_
                          refine gA (k := 3) (n := 8) (q := n) hx hb hK hI (by decide) rfl (vp_in_nI (Nat.lt_of_lt_of_le (show n < 8 by omega) (by decide)) (by decide)) (nI_clamp (Nat.lt_of_lt_of_le (show n < 8 by omega) (by decide))) dL_why_233 ?_
                          refine lv_sipush (v := 128) hx hb dL_why_234 (by decide) ?_
                          refine lv_idiv hx hb dL_why_237 (by decide) ?_
                          refine lv_iconst (v := 2) hx hb dL_why_238 (by decide) ?_
                          refine lv_irem hx hb dL_why_239 (by decide) ?_
                          refine lv_iload hx hb dL_why_240 (lv_at hl 6 rfl) ?_
                          refine lv_icmp_eq (tgt := 249) hx hb dL_why_242 (by decide) (fun c137 => ?_) (fun c137 => ?_)
                          · refine lv_iconst (v := 0) hx hb dL_why_249 (by decide) ?_
                            have eb138 : (0 : Int32) = bI ((¬ (a121 = 0)) ∨ ((((S 3 n) - (S 3 n) / 8 * 8) = 1) ∧ (((((S 3 n) / 8) - ((S 3 n) / 8) / 16 * 16) = x3) ∧ (¬ ((((S 3 n) / 128) - ((S 3 n) / 128) / 2 * 2) = x2))))) := (bI_f (fun k => k.elim (fun z => z c131) (fun k => (fun k => (fun k => k c137) k.2) k.2))).symm
                            rw [eb138]
                            exact hJ129
                          · refine lv_iconst (v := 1) hx hb dL_why_245 (by decide) ?_
                            refine lv_goto (tgt := 250) hx hb dL_why_246 (by decide) ?_
                            have eb139 : (1 : Int32) = bI ((¬ (a121 = 0)) ∨ ((((S 3 n) - (S 3 n) / 8 * 8) = 1) ∧ (((((S 3 n) / 8) - ((S 3 n) / 8) / 16 * 16) = x3) ∧ (¬ ((((S 3 n) / 128) - ((S 3 n) / 128) / 2 * 2) = x2))))) := (bI_t (Or.inr ⟨c133, ⟨c135, c137⟩⟩)).symm
                            rw [eb139]
                            exact hJ129
                exact hL122 nv 0 (by omega) 0 0 H locs ls nI_0.symm rfl hI (lv_sub hl [0, 1, 2, 3, 4, 5, 6, 7, 8, 9, 10, 11, 12] rfl)
              · refine lv_iload hx hb dL_why_164 (lv_at hl 2 rfl) ?_
                refine lv_iconst (v := 1) hx hb dL_why_166 (by decide) ?_
                have hJ141 : ∀ (x140 : Int32), (x140 = if x4 = 1 then (if x5 ≤ 5000 then 4 else 3) else 4) → W p G.1 e ({ frames := 1, cells := 0, slots := 0, locals := 25 }) s m args below meth c H locs 0 0 Q (F0 m 183 ls [.int x140]) := by
                  intro x140 ex140
                  have HE : L_why S uj = x140 := by subst ex140 ex6 ex5 ex4 ex3 ex2; exact (if_pos c1).trans ((if_neg c7).trans ((if_neg c8).trans ((if_neg c63).trans ((if_pos c118).trans ((if_neg c119).trans ((if_neg c120)))))))
                  exact rt_i hx hb hr hlocks hI hA hQ ⟨by rw [HE], rfl⟩ (Nat.zero_le _) (Nat.zero_le _) dL_why_183
                refine lv_icmp_ne (tgt := 182) hx hb dL_why_167 (by decide) (fun c142 => ?_) (fun c142 => ?_)
                · refine lv_iconst (v := 4) hx hb dL_why_182 (by decide) ?_
                  exact hJ141 4 (by exact (if_neg c142).symm)
                · refine lv_iload hx hb dL_why_170 (lv_at hl 1 rfl) ?_
                  refine lv_sipush (v := 5000) hx hb dL_why_172 (by decide) ?_
                  refine lv_icmp_le (tgt := 182) hx hb dL_why_175 (by decide) (fun c143 => ?_) (fun c143 => ?_)
                  · refine lv_iconst (v := 4) hx hb dL_why_182 (by decide) ?_
                    exact hJ141 4 (by exact ((if_pos c142).trans (if_pos c143)).symm)
                  · refine lv_iconst (v := 3) hx hb dL_why_178 (by decide) ?_
                    refine lv_goto (tgt := 183) hx hb dL_why_179 (by decide) ?_
                    exact hJ141 3 (by exact ((if_pos c142).trans (if_neg c143)).symm)
            · refine lv_iload hx hb dL_why_131 (lv_at hl 1 rfl) ?_
              refine lv_sipush (v := 5000) hx hb dL_why_133 (by decide) ?_
              refine lv_icmp_gt (tgt := 164) hx hb dL_why_136 (by decide) (fun c144 => ?_) (fun c144 => ?_)
              · refine lv_iload hx hb dL_why_164 (lv_at hl 2 rfl) ?_
                refine lv_iconst (v := 1) hx hb dL_why_166 (by decide) ?_
                have hJ146 : ∀ (x145 : Int32), (x145 = if x4 = 1 then (if x5 ≤ 5000 then 4 else 3) else 4) → W p G.1 e ({ frames := 1, cells := 0, slots := 0, locals := 25 }) s m args below meth c H locs 0 0 Q (F0 m 183 ls [.int x145]) := by
                  intro x145 ex145
                  have HE : L_why S uj = x145 := by subst ex145 ex6 ex5 ex4 ex3 ex2; exact (if_pos c1).trans ((if_neg c7).trans ((if_neg c8).trans ((if_neg c63).trans ((if_pos c118).trans ((if_pos c119).trans ((if_pos c144)))))))
                  exact rt_i hx hb hr hlocks hI hA hQ ⟨by rw [HE], rfl⟩ (Nat.zero_le _) (Nat.zero_le _) dL_why_183
                refine lv_icmp_ne (tgt := 182) hx hb dL_why_167 (by decide) (fun c147 => ?_) (fun c147 => ?_)
                · refine lv_iconst (v := 4) hx hb dL_why_182 (by decide) ?_
                  exact hJ146 4 (by exact (if_neg c147).symm)
                · refine lv_iload hx hb dL_why_170 (lv_at hl 1 rfl) ?_
                  refine lv_sipush (v := 5000) hx hb dL_why_172 (by decide) ?_
                  refine lv_icmp_le (tgt := 182) hx hb dL_why_175 (by decide) (fun c148 => ?_) (fun c148 => ?_)
                  · refine lv_iconst (v := 4) hx hb dL_why_182 (by decide) ?_
                    exact hJ146 4 (by exact ((if_pos c147).trans (if_pos c148)).symm)
                  · refine lv_iconst (v := 3) hx hb dL_why_178 (by decide) ?_
                    refine lv_goto (tgt := 183) hx hb dL_why_179 (by decide) ?_
                    exact hJ146 3 (by exact ((if_pos c147).trans (if_neg c148)).symm)
              · refine lv_aload hx hb dL_why_139 (lv_at hl 9 rfl) ?_
                refine lv_iconst (v := 0) hx hb dL_why_141 (by decide) ?_
                refine gA (k := 6) (n := 5) (q := 0) hx hb hK hI (by decide) rfl (by unfold vp_in; decide) (by decide) dL_why_142 ?_
                refine lv_aload_n hx hb dL_why_143 rfl (lv_at hl 5 rfl) ?_
                refine lv_bipush (v := 40) hx hb dL_why_144 (by decide) ?_
                refine lv_bipush (v := 8) hx hb dL_why_146 (by decide) ?_
                refine lv_iload hx hb dL_why_148 (lv_at hl 4 rfl) ?_
                refine lv_imul hx hb dL_why_150 ?_
                refine lv_iadd hx hb dL_why_151 ?_
                refine lv_iload hx hb dL_why_152 (lv_at hl 3 rfl) ?_
                refine lv_iadd hx hb dL_why_154 ?_
                refine gA (k := 0) (n := 57) (q := ((40 + (8 * x2)) + x3).toNatClampNeg) hx hb hK hI (by decide) rfl (by subst ex6 ex5 ex4 ex3 ex2; exact hw) rfl dL_why_155 ?_
                refine lv_isub hx hb dL_why_156 ?_
                refine lv_aload hx hb dL_why_157 (lv_at hl 9 rfl) ?_
                refine lv_iconst (v := 2) hx hb dL_why_159 (by decide) ?_
                refine gA (k := 6) (n := 5) (q := 2) hx hb hK hI (by decide) rfl (by unfold vp_in; decide) (by decide) dL_why_160 ?_
                refine lv_icmp_ge (tgt := 184) hx hb dL_why_161 (by decide) (fun c149 => ?_) (fun c149 => ?_)
                · refine lv_iconst (v := 0) hx hb dL_why_184 (by decide) ?_
                  refine lv_istore (lv' := [(11, .int 0), (10, .int x6), (9, .int x5), (8, .int x4), (7, .int x3), (6, .int x2), (0, .ref (la 0)), (1, .ref (la 1)), (2, .ref (la 3)), (3, .ref (la 4)), (4, .ref (la 6)), (5, .int uj)]) hx hb dL_why_185 hl (by decide) rfl (fun ls hl => ?_)
                  refine lv_iconst (v := 0) hx hb dL_why_187 (by decide) ?_
                  refine lv_istore (lv' := [(12, .int 0), (11, .int 0), (10, .int x6), (9, .int x5), (8, .int x4), (7, .int x3), (6, .int x2), (0, .ref (la 0)), (1, .ref (la 1)), (2, .ref (la 3)), (3, .ref (la 4)), (4, .ref (la 6)), (5, .int uj)]) hx hb dL_why_188 hl (by decide) rfl (fun ls hl => ?_)
                  have hL151 : ∀ (k n : Nat), n + k = nv → ∀ (i_ : Int32) (a150 : Int32) (H : Heap) (locs : List Loc) (ls : Array Slot), (i_ = nI n) → (a150 = L_isMet_f S x2 x3 n) → (fI G.2.2.1 A s.heap (jn w0 (lW G.2.2.2 la S)) H locs) → (lv_has ls 13 [(12, .int i_), (11, .int a150), (10, .int x6), (9, .int x5), (8, .int x4), (7, .int x3), (6, .int x2), (0, .ref (la 0)), (1, .ref (la 1)), (2, .ref (la 3)), (3, .ref (la 4)), (4, .ref (la 6)), (5, .int uj)]) → W p G.1 e ({ frames := 1, cells := 0, slots := 0, locals := 25 }) s m args below meth c H locs 0 0 Q (F0 m 190 ls []) := by
                    intro k
                    induction k with
                    | zero =>
                      intro n hnk i_ a150 H locs ls ei ea150 hI hl
                      subst ei
                      refine lv_iload hx hb dL_why_190 (lv_at hl 0 rfl) ?_
                      refine lv_aload hx hb dL_why_192 (lv_at hl 11 rfl) ?_
                      refine lv_iconst (v := 4) hx hb dL_why_194 (by decide) ?_
                      refine gA (k := 6) (n := 5) (q := 4) hx hb hK hI (by decide) rfl (by unfold vp_in; decide) (by decide) dL_why_195 ?_
                      refine lv_icmp_ge (tgt := 258) hx hb dL_why_196 (by decide) (fun _ => ?_) (fun h => absurd (by rw [hn4]; exact nI_le (by omega) (by omega)) h)
                      have hn9 : n = (S 6 4).toNatClampNeg := by rw [hn4, nI_clamp (by omega)]; omega
                      rw [hn9] at ea150
                      have hl : lv_has ls 13 [(11, .int a150), (10, .int x6), (9, .int x5), (8, .int x4), (7, .int x3), (6, .int x2), (0, .ref (la 0)), (1, .ref (la 1)), (2, .ref (la 3)), (3, .ref (la 4)), (4, .ref (la 6)), (5, .int uj)] := lv_sub hl [1, 2, 3, 4, 5, 6, 7, 8, 9, 10, 11, 12] rfl
                      refine lv_iload hx hb dL_why_258 (lv_at hl 1 rfl) ?_
                      have hJ153 : ∀ (x152 : Int32) (H : Heap) (locs : List Loc), (x152 = if x6 ≤ 0 then (if (x5 + (L_weights S x3)) ≤ (L_bears S x3 (S 0 (32 + x3.toNatClampNeg))) then 0 else 6) else (if a150 = 0 then (if (x5 + (L_weights S x3)) ≤ (L_bears S x3 (S 0 (32 + x3.toNatClampNeg))) then 0 else 6) else 5)) → (fI G.2.2.1 A s.heap (jn w0 (lW G.2.2.2 la S)) H locs) → W p G.1 e ({ frames := 1, cells := 0, slots := 0, locals := 25 }) s m args below meth c H locs 0 0 Q (F0 m 307 ls [.int x152]) := by
                        intro x152 H locs ex152 hI
                        have HE : L_why S uj = x152 := by subst ex152 ea150 ex6 ex5 ex4 ex3 ex2; exact (if_pos c1).trans ((if_neg c7).trans ((if_neg c8).trans ((if_neg c63).trans ((if_pos c118).trans ((if_pos c119).trans ((if_neg c144).trans ((if_pos c149))))))))
                        exact rt_i hx hb hr hlocks hI hA hQ ⟨by rw [HE], rfl⟩ (Nat.zero_le _) (Nat.zero_le _) dL_why_307
                      refine lv_if_le (tgt := 272) hx hb dL_why_260 (by decide) (fun c154 => ?_) (fun c154 => ?_)
                      · refine lv_iload hx hb dL_why_272 (lv_at hl 2 rfl) ?_
                        refine lv_aload_n hx hb dL_why_274 rfl (lv_at hl 8 rfl) ?_
                        refine lv_aload_n hx hb dL_why_275 rfl (lv_at hl 9 rfl) ?_
                        refine lv_aload hx hb dL_why_276 (lv_at hl 10 rfl) ?_
                        refine lv_iload hx hb dL_why_278 (lv_at hl 4 rfl) ?_
                        refine cSv (rest := [.int x5]) hx hb hml hts hown hK hE hI (qL_weights G w0 la S x3 hn4 hnv) kw_100 ⟨Nat.le_of_ble_eq_true rfl, Nat.le_of_ble_eq_true rfl⟩ rfl rfl hl.1 rfl (Nat.le_of_ble_eq_true rfl) dL_why_280 ⟨Nat.zero_le _, Nat.zero_le _⟩ (fun H locs hI => ?_)
                        refine lv_iadd hx hb dL_why_283 ?_
                        refine lv_aload_n hx hb dL_why_284 rfl (lv_at hl 6 rfl) ?_
                        refine lv_aload_n hx hb dL_why_285 rfl (lv_at hl 7 rfl) ?_
                        refine lv_iload hx hb dL_why_286 (lv_at hl 4 rfl) ?_
                        refine lv_aload_n hx hb dL_why_288 rfl (lv_at hl 6 rfl) ?_
                        refine lv_bipush (v := 32) hx hb dL_why_289 (by decide) ?_
                        refine lv_iload hx hb dL_why_291 (lv_at hl 4 rfl) ?_
                        refine lv_iadd hx hb dL_why_293 ?_
                        refine gA (k := 0) (n := 57) (q := 32 + x3.toNatClampNeg) hx hb hK hI (by decide) rfl (vo_i 32 rfl (by subst ex3 ex2; exact hq) (by decide) (by decide)) (vo_c 32 rfl (by subst ex3 ex2; exact hq) (by decide)) dL_why_294 ?_
                        refine cSv (rest := [.int (x5 + (L_weights S x3))]) hx hb hml hts hown hK hE hI (qL_bears G w0 la S x3 (S 0 (32 + x3.toNatClampNeg)) (by subst ex3 ex2; exact hq)) kw_104 ⟨Nat.le_of_ble_eq_true rfl, Nat.le_of_ble_eq_true rfl⟩ rfl rfl hl.1 rfl (Nat.le_of_ble_eq_true rfl) dL_why_295 ⟨Nat.zero_le _, Nat.zero_le _⟩ (fun H locs hI => ?_)
                        refine lv_icmp_le (tgt := 306) hx hb dL_why_298 (by decide) (fun c155 => ?_) (fun c155 => ?_)
                        · refine lv_iconst (v := 0) hx hb dL_why_306 (by decide) ?_
                          exact hJ153 0 _ _ (by exact ((if_pos c154).trans (if_pos c155)).symm) hI
                        · refine lv_bipush (v := 6) hx hb dL_why_301 (by decide) ?_
                          refine lv_goto (tgt := 307) hx hb dL_why_303 (by decide) ?_
                          exact hJ153 6 _ _ (by exact ((if_pos c154).trans (if_neg c155)).symm) hI
                      · refine lv_iload hx hb dL_why_263 (lv_at hl 0 rfl) ?_
                        refine lv_if_eq (tgt := 272) hx hb dL_why_265 (by decide) (fun c156 => ?_) (fun c156 => ?_)
                        · refine lv_iload hx hb dL_why_272 (lv_at hl 2 rfl) ?_
                          refine lv_aload_n hx hb dL_why_274 rfl (lv_at hl 8 rfl) ?_
                          refine lv_aload_n hx hb dL_why_275 rfl (lv_at hl 9 rfl) ?_
                          refine lv_aload hx hb dL_why_276 (lv_at hl 10 rfl) ?_
                          refine lv_iload hx hb dL_why_278 (lv_at hl 4 rfl) ?_
                          refine cSv (rest := [.int x5]) hx hb hml hts hown hK hE hI (qL_weights G w0 la S x3 hn4 hnv) kw_100 ⟨Nat.le_of_ble_eq_true rfl, Nat.le_of_ble_eq_true rfl⟩ rfl rfl hl.1 rfl (Nat.le_of_ble_eq_true rfl) dL_why_280 ⟨Nat.zero_le _, Nat.zero_le _⟩ (fun H locs hI => ?_)
                          refine lv_iadd hx hb dL_why_283 ?_
                          refine lv_aload_n hx hb dL_why_284 rfl (lv_at hl 6 rfl) ?_
                          refine lv_aload_n hx hb dL_why_285 rfl (lv_at hl 7 rfl) ?_
                          refine lv_iload hx hb dL_why_286 (lv_at hl 4 rfl) ?_
                          refine lv_aload_n hx hb dL_why_288 rfl (lv_at hl 6 rfl) ?_
                          refine lv_bipush (v := 32) hx hb dL_why_289 (by decide) ?_
                          refine lv_iload hx hb dL_why_291 (lv_at hl 4 rfl) ?_
                          refine lv_iadd hx hb dL_why_293 ?_
                          refine gA (k := 0) (n := 57) (q := 32 + x3.toNatClampNeg) hx hb hK hI (by decide) rfl (vo_i 32 rfl (by subst ex3 ex2; exact hq) (by decide) (by decide)) (vo_c 32 rfl (by subst ex3 ex2; exact hq) (by decide)) dL_why_294 ?_
                          refine cSv (rest := [.int (x5 + (L_weights S x3))]) hx hb hml hts hown hK hE hI (qL_bears G w0 la S x3 (S 0 (32 + x3.toNatClampNeg)) (by subst ex3 ex2; exact hq)) kw_104 ⟨Nat.le_of_ble_eq_true rfl, Nat.le_of_ble_eq_true rfl⟩ rfl rfl hl.1 rfl (Nat.le_of_ble_eq_true rfl) dL_why_295 ⟨Nat.zero_le _, Nat.zero_le _⟩ (fun H locs hI => ?_)
                          refine lv_icmp_le (tgt := 306) hx hb dL_why_298 (by decide) (fun c157 => ?_) (fun c157 => ?_)
                          · refine lv_iconst (v := 0) hx hb dL_why_306 (by decide) ?_
                            exact hJ153 0 _ _ (by exact ((if_neg c154).trans ((if_pos c156).trans (if_pos c157))).symm) hI
                          · refine lv_bipush (v := 6) hx hb dL_why_301 (by decide) ?_
                            refine lv_goto (tgt := 307) hx hb dL_why_303 (by decide) ?_
                            exact hJ153 6 _ _ (by exact ((if_neg c154).trans ((if_pos c156).trans (if_neg c157))).symm) hI
                        · refine lv_iconst (v := 5) hx hb dL_why_268 (by decide) ?_
                          refine lv_goto (tgt := 307) hx hb dL_why_269 (by decide) ?_
                          exact hJ153 5 _ _ (by exact ((if_neg c154).trans (if_neg c156)).symm) hI
                    | succ k ih =>
                      intro n hnk i_ a150 H locs ls ei ea150 hI hl
                      subst ei
                      refine lv_iload hx hb dL_why_190 (lv_at hl 0 rfl) ?_
                      refine lv_aload hx hb dL_why_192 (lv_at hl 11 rfl) ?_
                      refine lv_iconst (v := 4) hx hb dL_why_194 (by decide) ?_
                      refine gA (k := 6) (n := 5) (q := 4) hx hb hK hI (by decide) rfl (by unfold vp_in; decide) (by decide) dL_why_195 ?_
                      refine lv_icmp_ge (tgt := 258) hx hb dL_why_196 (by decide) (fun h => absurd h (by rw [hn4]; exact nI_ge (by omega) (by omega))) (fun _ => ?_)
                      refine lv_iload hx hb dL_why_199 (lv_at hl 1 rfl) ?_
                      have hJ158 : W p G.1 e ({ frames := 1, cells := 0, slots := 0, locals := 25 }) s m args below meth c H locs 0 0 Q (F0 m 250 ls [.int (bI ((¬ (a150 = 0)) ∨ ((((S 3 n) - (S 3 n) / 8 * 8) = 1) ∧ (((((S 3 n) / 8) - ((S 3 n) / 8) / 16 * 16) = x3) ∧ (¬ ((((S 3 n) / 128) - ((S 3 n) / 128) / 2 * 2) = x2))))))]) := by
                        refine lv_istore (lv' := [(11, .int (bI ((¬ (a150 = 0)) ∨ ((((S 3 n) - (S 3 n) / 8 * 8) = 1) ∧ (((((S 3 n) / 8) - ((S 3 n) / 8) / 16 * 16) = x3) ∧ (¬ ((((S 3 n) / 128) - ((S 3 n) / 128) / 2 * 2) = x2))))))), (12, .int (nI n)), (10, .int x6), (9, .int x5), (8, .int x4), (7, .int x3), (6, .int x2), (0, .ref (la 0)), (1, .ref (la 1)), (2, .ref (la 3)), (3, .ref (la 4)), (4, .ref (la 6)), (5, .int uj)]) hx hb dL_why_250 hl (by decide) rfl (fun ls hl => ?_)
                        obtain ⟨x159, ex159⟩ : ∃ z : Int32, z = (nI n) + 1 := ⟨_, rfl⟩
                        refine lv_iinc (v := x159) (lv' := [(12, .int x159), (11, .int (bI ((¬ (a150 = 0)) ∨ ((((S 3 n) - (S 3 n) / 8 * 8) = 1) ∧ (((((S 3 n) / 8) - ((S 3 n) / 8) / 16 * 16) = x3) ∧ (¬ ((((S 3 n) / 128) - ((S 3 n) / 128) / 2 * 2) = x2))))))), (10, .int x6), (9, .int x5), (8, .int x4), (7, .int x3), (6, .int x2), (0, .ref (la 0)), (1, .ref (la 1)), (2, .ref (la 3)), (3, .ref (la 4)), (4, .ref (la 6)), (5, .int uj)]) hx hb dL_why_252 hl (k := 1) rfl (by rw [ex159]; rfl) (by decide) rfl (fun ls hl => ?_)
                        refine lv_goto (tgt := 190) hx hb dL_why_255 (by decide) ?_
                        have HE : L_isMet_s S x2 x3 n a150 = bI ((¬ (a150 = 0)) ∨ ((((S 3 n) - (S 3 n) / 8 * 8) = 1) ∧ (((((S 3 n) / 8) - ((S 3 n) / 8) / 16 * 16) = x3) ∧ (¬ ((((S 3 n) / 128) - ((S 3 n) / 128) / 2 * 2) = x2))))) := by subst ex159; exact rfl
                        exact ih (n + 1) (by omega) x159 (bI ((¬ (a150 = 0)) ∨ ((((S 3 n) - (S 3 n) / 8 * 8) = 1) ∧ (((((S 3 n) / 8) - ((S 3 n) / 8) / 16 * 16) = x3) ∧ (¬ ((((S 3 n) / 128) - ((S 3 n) / 128) / 2 * 2) = x2)))))) H locs ls (by rw [ex159]; exact nI_1 n) (by show _ = L_isMet_s S x2 x3 n (L_isMet_f S x2 x3 n); rw [← ea150]; exact HE.symm) hI (lv_sub hl [0, 1, 2, 3, 4, 5, 6, 7, 8, 9, 10, 11, 12] rfl)
                      refine lv_if_ne (tgt := 245) hx hb dL_why_201 (by decide) (fun c160 => ?_) (fun c160 => ?_)
                      · refine lv_iconst (v := 1) hx hb dL_why_245 (by decide) ?_
                        refine lv_goto (tgt := 250) hx hb dL_why_246 (by decide) ?_
                        have eb161 : (1 : Int32) = bI ((¬ (a150 = 0)) ∨ ((((S 3 n) - (S 3 n) / 8 * 8) = 1) ∧ (((((S 3 n) / 8) - ((S 3 n) / 8) / 16 * 16) = x3) ∧ (¬ ((((S 3 n) / 128) - ((S 3 n) / 128) / 2 * 2) = x2))))) := (bI_t (Or.inl c160)).symm
                        rw [eb161]
                        exact hJ158
                      · refine lv_aload_n hx hb dL_why_204 rfl (lv_at hl 9 rfl) ?_
                        refine lv_iload hx hb dL_why_205 (lv_at hl 0 rfl) ?_
                        refine gA (k := 3) (n := 8) (q := n) hx hb hK hI (by decide) rfl (vp_in_nI (Nat.lt_of_lt_of_le (show n < 8 by omega) (by decide)) (by decide)) (nI_clamp (Nat.lt_of_lt_of_le (show n < 8 by omega) (by decide))) dL_why_207 ?_
                        refine lv_bipush (v := 8) hx hb dL_why_208 (by decide) ?_
                        refine lv_irem hx hb dL_why_210 (by decide) ?_
                        refine lv_iconst (v := 1) hx hb dL_why_211 (by decide) ?_
                        refine lv_icmp_ne (tgt := 249) hx hb dL_why_212 (by decide) (fun c162 => ?_) (fun c162 => ?_)
                        · refine lv_iconst (v := 0) hx hb dL_why_249 (by decide) ?_
                          have eb163 : (0 : Int32) = bI ((¬ (a150 = 0)) ∨ ((((S 3 n) - (S 3 n) / 8 * 8) = 1) ∧ (((((S 3 n) / 8) - ((S 3 n) / 8) / 16 * 16) = x3) ∧ (¬ ((((S 3 n) / 128) - ((S 3 n) / 128) / 2 * 2) = x2))))) := (bI_f (fun k => k.elim (fun z => z c160) (fun k => c162 k.1))).symm
                          rw [eb163]
                          exact hJ158
                        · refine lv_aload_n hx hb dL_why_215 rfl (lv_at hl 9 rfl) ?_
                          refine lv_iload hx hb dL_why_216 (lv_at hl 0 rfl) ?_
                          refine gA (k := 3) (n := 8) (q := n) hx hb hK hI (by decide) rfl (vp_in_nI (Nat.lt_of_lt_of_le (show n < 8 by omega) (by decide)) (by decide)) (nI_clamp (Nat.lt_of_lt_of_le (show n < 8 by omega) (by decide))) dL_why_218 ?_
                          refine lv_bipush (v := 8) hx hb dL_why_219 (by decide) ?_
                          refine lv_idiv hx hb dL_why_221 (by decide) ?_
                          refine lv_bipush (v := 16) hx hb dL_why_222 (by decide) ?_
                          refine lv_irem hx hb dL_why_224 (by decide) ?_
                          refine lv_iload hx hb dL_why_225 (lv_at hl 5 rfl) ?_
                          refine lv_icmp_ne (tgt := 249) hx hb dL_why_227 (by decide) (fun c164 => ?_) (fun c164 => ?_)
                          · refine lv_iconst (v := 0) hx hb dL_why_249 (by decide) ?_
                            have eb165 : (0 : Int32) = bI ((¬ (a150 = 0)) ∨ ((((S 3 n) - (S 3 n) / 8 * 8) = 1) ∧ (((((S 3 n) / 8) - ((S 3 n) / 8) / 16 * 16) = x3) ∧ (¬ ((((S 3 n) / 128) - ((S 3 n) / 128) / 2 * 2) = x2))))) := (bI_f (fun k => k.elim (fun z => z c160) (fun k => (fun k => c164 k.1) k.2))).symm
                            rw [eb165]
                            exact hJ158
                          · refine lv_aload_n hx hb dL_why_230 rfl (lv_at hl 9 rfl) ?_
                            refine lv_iload hx hb dL_why_231 (lv_at hl 0 rfl) ?_
                            refine gA (k := 3) (n := 8) (q := n) hx hb hK hI (by decide) rfl (vp_in_nI (Nat.lt_of_lt_of_le (show n < 8 by omega) (by decide)) (by decide)) (nI_clamp (Nat.lt_of_lt_of_le (show n < 8 by omega) (by decide))) dL_why_233 ?_
                            refine lv_sipush (v := 128) hx hb dL_why_234 (by decide) ?_
                            refine lv_idiv hx hb dL_why_237 (by decide) ?_
                            refine lv_iconst (v := 2) hx hb dL_why_238 (by decide) ?_
                            refine lv_irem hx hb dL_why_239 (by decide) ?_
                            refine lv_iload hx hb dL_why_240 (lv_at hl 6 rfl) ?_
                            refine lv_icmp_eq (tgt := 249) hx hb dL_why_242 (by decide) (fun c166 => ?_) (fun c166 => ?_)
                            · refine lv_iconst (v := 0) hx hb dL_why_249 (by decide) ?_
                              have eb167 : (0 : Int32) = bI ((¬ (a150 = 0)) ∨ ((((S 3 n) - (S 3 n) / 8 * 8) = 1) ∧ (((((S 3 n) / 8) - ((S 3 n) / 8) / 16 * 16) = x3) ∧ (¬ ((((S 3 n) / 128) - ((S 3 n) / 128) / 2 * 2) = x2))))) := (bI_f (fun k => k.elim (fun z => z c160) (fun k => (fun k => (fun k => k c166) k.2) k.2))).symm
                              rw [eb167]
                              exact hJ158
                            · refine lv_iconst (v := 1) hx hb dL_why_245 (by decide) ?_
                              refine lv_goto (tgt := 250) hx hb dL_why_246 (by decide) ?_
                              have eb168 : (1 : Int32) = bI ((¬ (a150 = 0)) ∨ ((((S 3 n) - (S 3 n) / 8 * 8) = 1) ∧ (((((S 3 n) / 8) - ((S 3 n) / 8) / 16 * 16) = x3) ∧ (¬ ((((S 3 n) / 128) - ((S 3 n) / 128) / 2 * 2) = x2))))) := (bI_t (Or.inr ⟨c162, ⟨c164, c166⟩⟩)).symm
                              rw [eb168]
                              exact hJ158
                  exact hL151 nv 0 (by omega) 0 0 H locs ls nI_0.symm rfl hI (lv_sub hl [0, 1, 2, 3, 4, 5, 6, 7, 8, 9, 10, 11, 12] rfl)
                · refine lv_iload hx hb dL_why_164 (lv_at hl 2 rfl) ?_
                  refine lv_iconst (v := 1) hx hb dL_why_166 (by decide) ?_
                  have hJ170 : ∀ (x169 : Int32), (x169 = if x4 = 1 then (if x5 ≤ 5000 then 4 else 3) else 4) → W p G.1 e ({ frames := 1, cells := 0, slots := 0, locals := 25 }) s m args below meth c H locs 0 0 Q (F0 m 183 ls [.int x169]) := by
                    intro x169 ex169
                    have HE : L_why S uj = x169 := by subst ex169 ex6 ex5 ex4 ex3 ex2; exact (if_pos c1).trans ((if_neg c7).trans ((if_neg c8).trans ((if_neg c63).trans ((if_pos c118).trans ((if_pos c119).trans ((if_neg c144).trans ((if_neg c149))))))))
                    exact rt_i hx hb hr hlocks hI hA hQ ⟨by rw [HE], rfl⟩ (Nat.zero_le _) (Nat.zero_le _) dL_why_183
                  refine lv_icmp_ne (tgt := 182) hx hb dL_why_167 (by decide) (fun c171 => ?_) (fun c171 => ?_)
                  · refine lv_iconst (v := 4) hx hb dL_why_182 (by decide) ?_
                    exact hJ170 4 (by exact (if_neg c171).symm)
                  · refine lv_iload hx hb dL_why_170 (lv_at hl 1 rfl) ?_
                    refine lv_sipush (v := 5000) hx hb dL_why_172 (by decide) ?_
                    refine lv_icmp_le (tgt := 182) hx hb dL_why_175 (by decide) (fun c172 => ?_) (fun c172 => ?_)
                    · refine lv_iconst (v := 4) hx hb dL_why_182 (by decide) ?_
                      exact hJ170 4 (by exact ((if_pos c171).trans (if_pos c172)).symm)
                    · refine lv_iconst (v := 3) hx hb dL_why_178 (by decide) ?_
                      refine lv_goto (tgt := 183) hx hb dL_why_179 (by decide) ?_
                      exact hJ170 3 (by exact ((if_pos c171).trans (if_neg c172)).symm)
          · refine lv_aload hx hb dL_why_109 (lv_at hl 9 rfl) ?_
            refine lv_iconst (v := 0) hx hb dL_why_111 (by decide) ?_
            refine gA (k := 6) (n := 5) (q := 0) hx hb hK hI (by decide) rfl (by unfold vp_in; decide) (by decide) dL_why_112 ?_
            refine lv_sipush (v := 1440) hx hb dL_why_113 (by decide) ?_
            refine lv_irem hx hb dL_why_116 (by decide) ?_
            refine lv_sipush (v := 1200) hx hb dL_why_117 (by decide) ?_
            refine lv_icmp_ge (tgt := 125) hx hb dL_why_120 (by decide) (fun c173 => ?_) (fun c173 => ?_)
            · refine lv_iload hx hb dL_why_125 (lv_at hl 2 rfl) ?_
              refine lv_iconst (v := 1) hx hb dL_why_127 (by decide) ?_
              refine lv_icmp_ne (tgt := 139) hx hb dL_why_128 (by decide) (fun c174 => ?_) (fun c174 => ?_)
              · refine lv_aload hx hb dL_why_139 (lv_at hl 9 rfl) ?_
                refine lv_iconst (v := 0) hx hb dL_why_141 (by decide) ?_
                refine gA (k := 6) (n := 5) (q := 0) hx hb hK hI (by decide) rfl (by unfold vp_in; decide) (by decide) dL_why_142 ?_
                refine lv_aload_n hx hb dL_why_143 rfl (lv_at hl 5 rfl) ?_
                refine lv_bipush (v := 40) hx hb dL_why_144 (by decide) ?_
                refine lv_bipush (v := 8) hx hb dL_why_146 (by decide) ?_
                refine lv_iload hx hb dL_why_148 (lv_at hl 4 rfl) ?_
                refine lv_imul hx hb dL_why_150 ?_
                refine lv_iadd hx hb dL_why_151 ?_
                refine lv_iload hx hb dL_why_152 (lv_at hl 3 rfl) ?_
                refine lv_iadd hx hb dL_why_154 ?_
                refine gA (k := 0) (n := 57) (q := ((40 + (8 * x2)) + x3).toNatClampNeg) hx hb hK hI (by decide) rfl (by subst ex6 ex5 ex4 ex3 ex2; exact hw) rfl dL_why_155 ?_
                refine lv_isub hx hb dL_why_156 ?_
                refine lv_aload hx hb dL_why_157 (lv_at hl 9 rfl) ?_
                refine lv_iconst (v := 2) hx hb dL_why_159 (by decide) ?_
                refine gA (k := 6) (n := 5) (q := 2) hx hb hK hI (by decide) rfl (by unfold vp_in; decide) (by decide) dL_why_160 ?_
                refine lv_icmp_ge (tgt := 184) hx hb dL_why_161 (by decide) (fun c175 => ?_) (fun c175 => ?_)
                · refine lv_iconst (v := 0) hx hb dL_why_184 (by decide) ?_
                  refine lv_istore (lv' := [(11, .int 0), (10, .int x6), (9, .int x5), (8, .int x4), (7, .int x3), (6, .int x2), (0, .ref (la 0)), (1, .ref (la 1)), (2, .ref (la 3)), (3, .ref (la 4)), (4, .ref (la 6)), (5, .int uj)]) hx hb dL_why_185 hl (by decide) rfl (fun ls hl => ?_)
                  refine lv_iconst (v := 0) hx hb dL_why_187 (by decide) ?_
                  refine lv_istore (lv' := [(12, .int 0), (11, .int 0), (10, .int x6), (9, .int x5), (8, .int x4), (7, .int x3), (6, .int x2), (0, .ref (la 0)), (1, .ref (la 1)), (2, .ref (la 3)), (3, .ref (la 4)), (4, .ref (la 6)), (5, .int uj)]) hx hb dL_why_188 hl (by decide) rfl (fun ls hl => ?_)
                  have hL177 : ∀ (k n : Nat), n + k = nv → ∀ (i_ : Int32) (a176 : Int32) (H : Heap) (locs : List Loc) (ls : Array Slot), (i_ = nI n) → (a176 = L_isMet_f S x2 x3 n) → (fI G.2.2.1 A s.heap (jn w0 (lW G.2.2.2 la S)) H locs) → (lv_has ls 13 [(12, .int i_), (11, .int a176), (10, .int x6), (9, .int x5), (8, .int x4), (7, .int x3), (6, .int x2), (0, .ref (la 0)), (1, .ref (la 1)), (2, .ref (la 3)), (3, .ref (la 4)), (4, .ref (la 6)), (5, .int uj)]) → W p G.1 e ({ frames := 1, cells := 0, slots := 0, locals := 25 }) s m args below meth c H locs 0 0 Q (F0 m 190 ls []) := by
                    intro k
                    induction k with
                    | zero =>
                      intro n hnk i_ a176 H locs ls ei ea176 hI hl
                      subst ei
                      refine lv_iload hx hb dL_why_190 (lv_at hl 0 rfl) ?_
                      refine lv_aload hx hb dL_why_192 (lv_at hl 11 rfl) ?_
                      refine lv_iconst (v := 4) hx hb dL_why_194 (by decide) ?_
                      refine gA (k := 6) (n := 5) (q := 4) hx hb hK hI (by decide) rfl (by unfold vp_in; decide) (by decide) dL_why_195 ?_
                      refine lv_icmp_ge (tgt := 258) hx hb dL_why_196 (by decide) (fun _ => ?_) (fun h => absurd (by rw [hn4]; exact nI_le (by omega) (by omega)) h)
                      have hn9 : n = (S 6 4).toNatClampNeg := by rw [hn4, nI_clamp (by omega)]; omega
                      rw [hn9] at ea176
                      have hl : lv_has ls 13 [(11, .int a176), (10, .int x6), (9, .int x5), (8, .int x4), (7, .int x3), (6, .int x2), (0, .ref (la 0)), (1, .ref (la 1)), (2, .ref (la 3)), (3, .ref (la 4)), (4, .ref (la 6)), (5, .int uj)] := lv_sub hl [1, 2, 3, 4, 5, 6, 7, 8, 9, 10, 11, 12] rfl
                      refine lv_iload hx hb dL_why_258 (lv_at hl 1 rfl) ?_
                      have hJ179 : ∀ (x178 : Int32) (H : Heap) (locs : List Loc), (x178 = if x6 ≤ 0 then (if (x5 + (L_weights S x3)) ≤ (L_bears S x3 (S 0 (32 + x3.toNatClampNeg))) then 0 else 6) else (if a176 = 0 then (if (x5 + (L_weights S x3)) ≤ (L_bears S x3 (S 0 (32 + x3.toNatClampNeg))) then 0 else 6) else 5)) → (fI G.2.2.1 A s.heap (jn w0 (lW G.2.2.2 la S)) H locs) → W p G.1 e ({ frames := 1, cells := 0, slots := 0, locals := 25 }) s m args below meth c H locs 0 0 Q (F0 m 307 ls [.int x178]) := by
                        intro x178 H locs ex178 hI
                        have HE : L_why S uj = x178 := by subst ex178 ea176 ex6 ex5 ex4 ex3 ex2; exact (if_pos c1).trans ((if_neg c7).trans ((if_neg c8).trans ((if_neg c63).trans ((if_neg c118).trans ((if_pos c173).trans ((if_neg c174).trans ((if_pos c175))))))))
                        exact rt_i hx hb hr hlocks hI hA hQ ⟨by rw [HE], rfl⟩ (Nat.zero_le _) (Nat.zero_le _) dL_why_307
                      refine lv_if_le (tgt := 272) hx hb dL_why_260 (by decide) (fun c180 => ?_) (fun c180 => ?_)
                      · refine lv_iload hx hb dL_why_272 (lv_at hl 2 rfl) ?_
                        refine lv_aload_n hx hb dL_why_274 rfl (lv_at hl 8 rfl) ?_
                        refine lv_aload_n hx hb dL_why_275 rfl (lv_at hl 9 rfl) ?_
                        refine lv_aload hx hb dL_why_276 (lv_at hl 10 rfl) ?_
                        refine lv_iload hx hb dL_why_278 (lv_at hl 4 rfl) ?_
                        refine cSv (rest := [.int x5]) hx hb hml hts hown hK hE hI (qL_weights G w0 la S x3 hn4 hnv) kw_100 ⟨Nat.le_of_ble_eq_true rfl, Nat.le_of_ble_eq_true rfl⟩ rfl rfl hl.1 rfl (Nat.le_of_ble_eq_true rfl) dL_why_280 ⟨Nat.zero_le _, Nat.zero_le _⟩ (fun H locs hI => ?_)
                        refine lv_iadd hx hb dL_why_283 ?_
                        refine lv_aload_n hx hb dL_why_284 rfl (lv_at hl 6 rfl) ?_
                        refine lv_aload_n hx hb dL_why_285 rfl (lv_at hl 7 rfl) ?_
                        refine lv_iload hx hb dL_why_286 (lv_at hl 4 rfl) ?_
                        refine lv_aload_n hx hb dL_why_288 rfl (lv_at hl 6 rfl) ?_
                        refine lv_bipush (v := 32) hx hb dL_why_289 (by decide) ?_
                        refine lv_iload hx hb dL_why_291 (lv_at hl 4 rfl) ?_
                        refine lv_iadd hx hb dL_why_293 ?_
                        refine gA (k := 0) (n := 57) (q := 32 + x3.toNatClampNeg) hx hb hK hI (by decide) rfl (vo_i 32 rfl (by subst ex3 ex2; exact hq) (by decide) (by decide)) (vo_c 32 rfl (by subst ex3 ex2; exact hq) (by decide)) dL_why_294 ?_
                        refine cSv (rest := [.int (x5 + (L_weights S x3))]) hx hb hml hts hown hK hE hI (qL_bears G w0 la S x3 (S 0 (32 + x3.toNatClampNeg)) (by subst ex3 ex2; exact hq)) kw_104 ⟨Nat.le_of_ble_eq_true rfl, Nat.le_of_ble_eq_true rfl⟩ rfl rfl hl.1 rfl (Nat.le_of_ble_eq_true rfl) dL_why_295 ⟨Nat.zero_le _, Nat.zero_le _⟩ (fun H locs hI => ?_)
                        refine lv_icmp_le (tgt := 306) hx hb dL_why_298 (by decide) (fun c181 => ?_) (fun c181 => ?_)
                        · refine lv_iconst (v := 0) hx hb dL_why_306 (by decide) ?_
                          exact hJ179 0 _ _ (by exact ((if_pos c180).trans (if_pos c181)).symm) hI
                        · refine lv_bipush (v := 6) hx hb dL_why_301 (by decide) ?_
                          refine lv_goto (tgt := 307) hx hb dL_why_303 (by decide) ?_
                          exact hJ179 6 _ _ (by exact ((if_pos c180).trans (if_neg c181)).symm) hI
                      · refine lv_iload hx hb dL_why_263 (lv_at hl 0 rfl) ?_
                        refine lv_if_eq (tgt := 272) hx hb dL_why_265 (by decide) (fun c182 => ?_) (fun c182 => ?_)
                        · refine lv_iload hx hb dL_why_272 (lv_at hl 2 rfl) ?_
                          refine lv_aload_n hx hb dL_why_274 rfl (lv_at hl 8 rfl) ?_
                          refine lv_aload_n hx hb dL_why_275 rfl (lv_at hl 9 rfl) ?_
                          refine lv_aload hx hb dL_why_276 (lv_at hl 10 rfl) ?_
                          refine lv_iload hx hb dL_why_278 (lv_at hl 4 rfl) ?_
                          refine cSv (rest := [.int x5]) hx hb hml hts hown hK hE hI (qL_weights G w0 la S x3 hn4 hnv) kw_100 ⟨Nat.le_of_ble_eq_true rfl, Nat.le_of_ble_eq_true rfl⟩ rfl rfl hl.1 rfl (Nat.le_of_ble_eq_true rfl) dL_why_280 ⟨Nat.zero_le _, Nat.zero_le _⟩ (fun H locs hI => ?_)
                          refine lv_iadd hx hb dL_why_283 ?_
                          refine lv_aload_n hx hb dL_why_284 rfl (lv_at hl 6 rfl) ?_
                          refine lv_aload_n hx hb dL_why_285 rfl (lv_at hl 7 rfl) ?_
                          refine lv_iload hx hb dL_why_286 (lv_at hl 4 rfl) ?_
                          refine lv_aload_n hx hb dL_why_288 rfl (lv_at hl 6 rfl) ?_
                          refine lv_bipush (v := 32) hx hb dL_why_289 (by decide) ?_
                          refine lv_iload hx hb dL_why_291 (lv_at hl 4 rfl) ?_
                          refine lv_iadd hx hb dL_why_293 ?_
                          refine gA (k := 0) (n := 57) (q := 32 + x3.toNatClampNeg) hx hb hK hI (by decide) rfl (vo_i 32 rfl (by subst ex3 ex2; exact hq) (by decide) (by decide)) (vo_c 32 rfl (by subst ex3 ex2; exact hq) (by decide)) dL_why_294 ?_
                          refine cSv (rest := [.int (x5 + (L_weights S x3))]) hx hb hml hts hown hK hE hI (qL_bears G w0 la S x3 (S 0 (32 + x3.toNatClampNeg)) (by subst ex3 ex2; exact hq)) kw_104 ⟨Nat.le_of_ble_eq_true rfl, Nat.le_of_ble_eq_true rfl⟩ rfl rfl hl.1 rfl (Nat.le_of_ble_eq_true rfl) dL_why_295 ⟨Nat.zero_le _, Nat.zero_le _⟩ (fun H locs hI => ?_)
                          refine lv_icmp_le (tgt := 306) hx hb dL_why_298 (by decide) (fun c183 => ?_) (fun c183 => ?_)
                          · refine lv_iconst (v := 0) hx hb dL_why_306 (by decide) ?_
                            exact hJ179 0 _ _ (by exact ((if_neg c180).trans ((if_pos c182).trans (if_pos c183))).symm) hI
                          · refine lv_bipush (v := 6) hx hb dL_why_301 (by decide) ?_
                            refine lv_goto (tgt := 307) hx hb dL_why_303 (by decide) ?_
                            exact hJ179 6 _ _ (by exact ((if_neg c180).trans ((if_pos c182).trans (if_neg c183))).symm) hI
                        · refine lv_iconst (v := 5) hx hb dL_why_268 (by decide) ?_
                          refine lv_goto (tgt := 307) hx hb dL_why_269 (by decide) ?_
                          exact hJ179 5 _ _ (by exact ((if_neg c180).trans (if_neg c182)).symm) hI
                    | succ k ih =>
                      intro n hnk i_ a176 H locs ls ei ea176 hI hl
                      subst ei
                      refine lv_iload hx hb dL_why_190 (lv_at hl 0 rfl) ?_
                      refine lv_aload hx hb dL_why_192 (lv_at hl 11 rfl) ?_
                      refine lv_iconst (v := 4) hx hb dL_why_194 (by decide) ?_
                      refine gA (k := 6) (n := 5) (q := 4) hx hb hK hI (by decide) rfl (by unfold vp_in; decide) (by decide) dL_why_195 ?_
                      refine lv_icmp_ge (tgt := 258) hx hb dL_why_196 (by decide) (fun h => absurd h (by rw [hn4]; exact nI_ge (by omega) (by omega))) (fun _ => ?_)
                      refine lv_iload hx hb dL_why_199 (lv_at hl 1 rfl) ?_
                      have hJ184 : W p G.1 e ({ frames := 1, cells := 0, slots := 0, locals := 25 }) s m args below meth c H locs 0 0 Q (F0 m 250 ls [.int (bI ((¬ (a176 = 0)) ∨ ((((S 3 n) - (S 3 n) / 8 * 8) = 1) ∧ (((((S 3 n) / 8) - ((S 3 n) / 8) / 16 * 16) = x3) ∧ (¬ ((((S 3 n) / 128) - ((S 3 n) / 128) / 2 * 2) = x2))))))]) := by
                        refine lv_istore (lv' := [(11, .int (bI ((¬ (a176 = 0)) ∨ ((((S 3 n) - (S 3 n) / 8 * 8) = 1) ∧ (((((S 3 n) / 8) - ((S 3 n) / 8) / 16 * 16) = x3) ∧ (¬ ((((S 3 n) / 128) - ((S 3 n) / 128) / 2 * 2) = x2))))))), (12, .int (nI n)), (10, .int x6), (9, .int x5), (8, .int x4), (7, .int x3), (6, .int x2), (0, .ref (la 0)), (1, .ref (la 1)), (2, .ref (la 3)), (3, .ref (la 4)), (4, .ref (la 6)), (5, .int uj)]) hx hb dL_why_250 hl (by decide) rfl (fun ls hl => ?_)
                        obtain ⟨x185, ex185⟩ : ∃ z : Int32, z = (nI n) + 1 := ⟨_, rfl⟩
                        refine lv_iinc (v := x185) (lv' := [(12, .int x185), (11, .int (bI ((¬ (a176 = 0)) ∨ ((((S 3 n) - (S 3 n) / 8 * 8) = 1) ∧ (((((S 3 n) / 8) - ((S 3 n) / 8) / 16 * 16) = x3) ∧ (¬ ((((S 3 n) / 128) - ((S 3 n) / 128) / 2 * 2) = x2))))))), (10, .int x6), (9, .int x5), (8, .int x4), (7, .int x3), (6, .int x2), (0, .ref (la 0)), (1, .ref (la 1)), (2, .ref (la 3)), (3, .ref (la 4)), (4, .ref (la 6)), (5, .int uj)]) hx hb dL_why_252 hl (k := 1) rfl (by rw [ex185]; rfl) (by decide) rfl (fun ls hl => ?_)
                        refine lv_goto (tgt := 190) hx hb dL_why_255 (by decide) ?_
                        have HE : L_isMet_s S x2 x3 n a176 = bI ((¬ (a176 = 0)) ∨ ((((S 3 n) - (S 3 n) / 8 * 8) = 1) ∧ (((((S 3 n) / 8) - ((S 3 n) / 8) / 16 * 16) = x3) ∧ (¬ ((((S 3 n) / 128) - ((S 3 n) / 128) / 2 * 2) = x2))))) := by subst ex185; exact rfl
                        exact ih (n + 1) (by omega) x185 (bI ((¬ (a176 = 0)) ∨ ((((S 3 n) - (S 3 n) / 8 * 8) = 1) ∧ (((((S 3 n) / 8) - ((S 3 n) / 8) / 16 * 16) = x3) ∧ (¬ ((((S 3 n) / 128) - ((S 3 n) / 128) / 2 * 2) = x2)))))) H locs ls (by rw [ex185]; exact nI_1 n) (by show _ = L_isMet_s S x2 x3 n (L_isMet_f S x2 x3 n); rw [← ea176]; exact HE.symm) hI (lv_sub hl [0, 1, 2, 3, 4, 5, 6, 7, 8, 9, 10, 11, 12] rfl)
                      refine lv_if_ne (tgt := 245) hx hb dL_why_201 (by decide) (fun c186 => ?_) (fun c186 => ?_)
                      · refine lv_iconst (v := 1) hx hb dL_why_245 (by decide) ?_
                        refine lv_goto (tgt := 250) hx hb dL_why_246 (by decide) ?_
                        have eb187 : (1 : Int32) = bI ((¬ (a176 = 0)) ∨ ((((S 3 n) - (S 3 n) / 8 * 8) = 1) ∧ (((((S 3 n) / 8) - ((S 3 n) / 8) / 16 * 16) = x3) ∧ (¬ ((((S 3 n) / 128) - ((S 3 n) / 128) / 2 * 2) = x2))))) := (bI_t (Or.inl c186)).symm
                        rw [eb187]
                        exact hJ184
                      · refine lv_aload_n hx hb dL_why_204 rfl (lv_at hl 9 rfl) ?_
                        refine lv_iload hx hb dL_why_205 (lv_at hl 0 rfl) ?_
                        refine gA (k := 3) (n := 8) (q := n) hx hb hK hI (by decide) rfl (vp_in_nI (Nat.lt_of_lt_of_le (show n < 8 by omega) (by decide)) (by decide)) (nI_clamp (Nat.lt_of_lt_of_le (show n < 8 by omega) (by decide))) dL_why_207 ?_
                        refine lv_bipush (v := 8) hx hb dL_why_208 (by decide) ?_
                        refine lv_irem hx hb dL_why_210 (by decide) ?_
                        refine lv_iconst (v := 1) hx hb dL_why_211 (by decide) ?_
                        refine lv_icmp_ne (tgt := 249) hx hb dL_why_212 (by decide) (fun c188 => ?_) (fun c188 => ?_)
                        · refine lv_iconst (v := 0) hx hb dL_why_249 (by decide) ?_
                          have eb189 : (0 : Int32) = bI ((¬ (a176 = 0)) ∨ ((((S 3 n) - (S 3 n) / 8 * 8) = 1) ∧ (((((S 3 n) / 8) - ((S 3 n) / 8) / 16 * 16) = x3) ∧ (¬ ((((S 3 n) / 128) - ((S 3 n) / 128) / 2 * 2) = x2))))) := (bI_f (fun k => k.elim (fun z => z c186) (fun k => c188 k.1))).symm
                          rw [eb189]
                          exact hJ184
                        · refine lv_aload_n hx hb dL_why_215 rfl (lv_at hl 9 rfl) ?_
                          refine lv_iload hx hb dL_why_216 (lv_at hl 0 rfl) ?_
                          refine gA (k := 3) (n := 8) (q := n) hx hb hK hI (by decide) rfl (vp_in_nI (Nat.lt_of_lt_of_le (show n < 8 by omega) (by decide)) (by decide)) (nI_clamp (Nat.lt_of_lt_of_le (show n < 8 by omega) (by decide))) dL_why_218 ?_
                          refine lv_bipush (v := 8) hx hb dL_why_219 (by decide) ?_
                          refine lv_idiv hx hb dL_why_221 (by decide) ?_
                          refine lv_bipush (v := 16) hx hb dL_why_222 (by decide) ?_
                          refine lv_irem hx hb dL_why_224 (by decide) ?_
                          refine lv_iload hx hb dL_why_225 (lv_at hl 5 rfl) ?_
                          refine lv_icmp_ne (tgt := 249) hx hb dL_why_227 (by decide) (fun c190 => ?_) (fun c190 => ?_)
                          · refine lv_iconst (v := 0) hx hb dL_why_249 (by decide) ?_
                            have eb191 : (0 : Int32) = bI ((¬ (a176 = 0)) ∨ ((((S 3 n) - (S 3 n) / 8 * 8) = 1) ∧ (((((S 3 n) / 8) - ((S 3 n) / 8) / 16 * 16) = x3) ∧ (¬ ((((S 3 n) / 128) - ((S 3 n) / 128) / 2 * 2) = x2))))) := (bI_f (fun k => k.elim (fun z => z c186) (fun k => (fun k => c190 k.1) k.2))).symm
                            rw [eb191]
                            exact hJ184
                          · refine lv_aload_n hx hb dL_why_230 rfl (lv_at hl 9 rfl) ?_
                            refine lv_iload hx hb dL_why_231 (lv_at hl 0 rfl) ?_
                            refine gA (k := 3) (n := 8) (q := n) hx hb hK hI (by decide) rfl (vp_in_nI (Nat.lt_of_lt_of_le (show n < 8 by omega) (by decide)) (by decide)) (nI_clamp (Nat.lt_of_lt_of_le (show n < 8 by omega) (by decide))) dL_why_233 ?_
                            refine lv_sipush (v := 128) hx hb dL_why_234 (by decide) ?_
                            refine lv_idiv hx hb dL_why_237 (by decide) ?_
                            refine lv_iconst (v := 2) hx hb dL_why_238 (by decide) ?_
                            refine lv_irem hx hb dL_why_239 (by decide) ?_
                            refine lv_iload hx hb dL_why_240 (lv_at hl 6 rfl) ?_
                            refine lv_icmp_eq (tgt := 249) hx hb dL_why_242 (by decide) (fun c192 => ?_) (fun c192 => ?_)
                            · refine lv_iconst (v := 0) hx hb dL_why_249 (by decide) ?_
                              have eb193 : (0 : Int32) = bI ((¬ (a176 = 0)) ∨ ((((S 3 n) - (S 3 n) / 8 * 8) = 1) ∧ (((((S 3 n) / 8) - ((S 3 n) / 8) / 16 * 16) = x3) ∧ (¬ ((((S 3 n) / 128) - ((S 3 n) / 128) / 2 * 2) = x2))))) := (bI_f (fun k => k.elim (fun z => z c186) (fun k => (fun k => (fun k => k c192) k.2) k.2))).symm
                              rw [eb193]
                              exact hJ184
                            · refine lv_iconst (v := 1) hx hb dL_why_245 (by decide) ?_
                              refine lv_goto (tgt := 250) hx hb dL_why_246 (by decide) ?_
                              have eb194 : (1 : Int32) = bI ((¬ (a176 = 0)) ∨ ((((S 3 n) - (S 3 n) / 8 * 8) = 1) ∧ (((((S 3 n) / 8) - ((S 3 n) / 8) / 16 * 16) = x3) ∧ (¬ ((((S 3 n) / 128) - ((S 3 n) / 128) / 2 * 2) = x2))))) := (bI_t (Or.inr ⟨c188, ⟨c190, c192⟩⟩)).symm
                              rw [eb194]
                              exact hJ184
                  exact hL177 nv 0 (by omega) 0 0 H locs ls nI_0.symm rfl hI (lv_sub hl [0, 1, 2, 3, 4, 5, 6, 7, 8, 9, 10, 11, 12] rfl)
                · refine lv_iload hx hb dL_why_164 (lv_at hl 2 rfl) ?_
                  refine lv_iconst (v := 1) hx hb dL_why_166 (by decide) ?_
                  have hJ196 : ∀ (x195 : Int32), (x195 = if x4 = 1 then (if x5 ≤ 5000 then 4 else 3) else 4) → W p G.1 e ({ frames := 1, cells := 0, slots := 0, locals := 25 }) s m args below meth c H locs 0 0 Q (F0 m 183 ls [.int x195]) := by
                    intro x195 ex195
                    have HE : L_why S uj = x195 := by subst ex195 ex6 ex5 ex4 ex3 ex2; exact (if_pos c1).trans ((if_neg c7).trans ((if_neg c8).trans ((if_neg c63).trans ((if_neg c118).trans ((if_pos c173).trans ((if_neg c174).trans ((if_neg c175))))))))
                    exact rt_i hx hb hr hlocks hI hA hQ ⟨by rw [HE], rfl⟩ (Nat.zero_le _) (Nat.zero_le _) dL_why_183
                  refine lv_icmp_ne (tgt := 182) hx hb dL_why_167 (by decide) (fun c197 => ?_) (fun c197 => ?_)
                  · refine lv_iconst (v := 4) hx hb dL_why_182 (by decide) ?_
                    exact hJ196 4 (by exact (if_neg c197).symm)
                  · refine lv_iload hx hb dL_why_170 (lv_at hl 1 rfl) ?_
                    refine lv_sipush (v := 5000) hx hb dL_why_172 (by decide) ?_
                    refine lv_icmp_le (tgt := 182) hx hb dL_why_175 (by decide) (fun c198 => ?_) (fun c198 => ?_)
                    · refine lv_iconst (v := 4) hx hb dL_why_182 (by decide) ?_
                      exact hJ196 4 (by exact ((if_pos c197).trans (if_pos c198)).symm)
                    · refine lv_iconst (v := 3) hx hb dL_why_178 (by decide) ?_
                      refine lv_goto (tgt := 183) hx hb dL_why_179 (by decide) ?_
                      exact hJ196 3 (by exact ((if_pos c197).trans (if_neg c198)).symm)
              · refine lv_iload hx hb dL_why_131 (lv_at hl 1 rfl) ?_
                refine lv_sipush (v := 5000) hx hb dL_why_133 (by decide) ?_
                refine lv_icmp_gt (tgt := 164) hx hb dL_why_136 (by decide) (fun c199 => ?_) (fun c199 => ?_)
                · refine lv_iload hx hb dL_why_164 (lv_at hl 2 rfl) ?_
                  refine lv_iconst (v := 1) hx hb dL_why_166 (by decide) ?_
                  have hJ201 : ∀ (x200 : Int32), (x200 = if x4 = 1 then (if x5 ≤ 5000 then 4 else 3) else 4) → W p G.1 e ({ frames := 1, cells := 0, slots := 0, locals := 25 }) s m args below meth c H locs 0 0 Q (F0 m 183 ls [.int x200]) := by
                    intro x200 ex200
                    have HE : L_why S uj = x200 := by subst ex200 ex6 ex5 ex4 ex3 ex2; exact (if_pos c1).trans ((if_neg c7).trans ((if_neg c8).trans ((if_neg c63).trans ((if_neg c118).trans ((if_pos c173).trans ((if_pos c174).trans ((if_pos c199))))))))
                    exact rt_i hx hb hr hlocks hI hA hQ ⟨by rw [HE], rfl⟩ (Nat.zero_le _) (Nat.zero_le _) dL_why_183
                  refine lv_icmp_ne (tgt := 182) hx hb dL_why_167 (by decide) (fun c202 => ?_) (fun c202 => ?_)
                  · refine lv_iconst (v := 4) hx hb dL_why_182 (by decide) ?_
                    exact hJ201 4 (by exact (if_neg c202).symm)
                  · refine lv_iload hx hb dL_why_170 (lv_at hl 1 rfl) ?_
                    refine lv_sipush (v := 5000) hx hb dL_why_172 (by decide) ?_
                    refine lv_icmp_le (tgt := 182) hx hb dL_why_175 (by decide) (fun c203 => ?_) (fun c203 => ?_)
                    · refine lv_iconst (v := 4) hx hb dL_why_182 (by decide) ?_
                      exact hJ201 4 (by exact ((if_pos c202).trans (if_pos c203)).symm)
                    · refine lv_iconst (v := 3) hx hb dL_why_178 (by decide) ?_
                      refine lv_goto (tgt := 183) hx hb dL_why_179 (by decide) ?_
                      exact hJ201 3 (by exact ((if_pos c202).trans (if_neg c203)).symm)
                · refine lv_aload hx hb dL_why_139 (lv_at hl 9 rfl) ?_
                  refine lv_iconst (v := 0) hx hb dL_why_141 (by decide) ?_
                  refine gA (k := 6) (n := 5) (q := 0) hx hb hK hI (by decide) rfl (by unfold vp_in; decide) (by decide) dL_why_142 ?_
                  refine lv_aload_n hx hb dL_why_143 rfl (lv_at hl 5 rfl) ?_
                  refine lv_bipush (v := 40) hx hb dL_why_144 (by decide) ?_
                  refine lv_bipush (v := 8) hx hb dL_why_146 (by decide) ?_
                  refine lv_iload hx hb dL_why_148 (lv_at hl 4 rfl) ?_
                  refine lv_imul hx hb dL_why_150 ?_
                  refine lv_iadd hx hb dL_why_151 ?_
                  refine lv_iload hx hb dL_why_152 (lv_at hl 3 rfl) ?_
                  refine lv_iadd hx hb dL_why_154 ?_
                  refine gA (k := 0) (n := 57) (q := ((40 + (8 * x2)) + x3).toNatClampNeg) hx hb hK hI (by decide) rfl (by subst ex6 ex5 ex4 ex3 ex2; exact hw) rfl dL_why_155 ?_
                  refine lv_isub hx hb dL_why_156 ?_
                  refine lv_aload hx hb dL_why_157 (lv_at hl 9 rfl) ?_
                  refine lv_iconst (v := 2) hx hb dL_why_159 (by decide) ?_
                  refine gA (k := 6) (n := 5) (q := 2) hx hb hK hI (by decide) rfl (by unfold vp_in; decide) (by decide) dL_why_160 ?_
                  refine lv_icmp_ge (tgt := 184) hx hb dL_why_161 (by decide) (fun c204 => ?_) (fun c204 => ?_)
                  · refine lv_iconst (v := 0) hx hb dL_why_184 (by decide) ?_
                    refine lv_istore (lv' := [(11, .int 0), (10, .int x6), (9, .int x5), (8, .int x4), (7, .int x3), (6, .int x2), (0, .ref (la 0)), (1, .ref (la 1)), (2, .ref (la 3)), (3, .ref (la 4)), (4, .ref (la 6)), (5, .int uj)]) hx hb dL_why_185 hl (by decide) rfl (fun ls hl => ?_)
                    refine lv_iconst (v := 0) hx hb dL_why_187 (by decide) ?_
                    refine lv_istore (lv' := [(12, .int 0), (11, .int 0), (10, .int x6), (9, .int x5), (8, .int x4), (7, .int x3), (6, .int x2), (0, .ref (la 0)), (1, .ref (la 1)), (2, .ref (la 3)), (3, .ref (la 4)), (4, .ref (la 6)), (5, .int uj)]) hx hb dL_why_188 hl (by decide) rfl (fun ls hl => ?_)
                    have hL206 : ∀ (k n : Nat), n + k = nv → ∀ (i_ : Int32) (a205 : Int32) (H : Heap) (locs : List Loc) (ls : Array Slot), (i_ = nI n) → (a205 = L_isMet_f S x2 x3 n) → (fI G.2.2.1 A s.heap (jn w0 (lW G.2.2.2 la S)) H locs) → (lv_has ls 13 [(12, .int i_), (11, .int a205), (10, .int x6), (9, .int x5), (8, .int x4), (7, .int x3), (6, .int x2), (0, .ref (la 0)), (1, .ref (la 1)), (2, .ref (la 3)), (3, .ref (la 4)), (4, .ref (la 6)), (5, .int uj)]) → W p G.1 e ({ frames := 1, cells := 0, slots := 0, locals := 25 }) s m args below meth c H locs 0 0 Q (F0 m 190 ls []) := by
                      intro k
                      induction k with
                      | zero =>
                        intro n hnk i_ a205 H locs ls ei ea205 hI hl
                        subst ei
                        refine lv_iload hx hb dL_why_190 (lv_at hl 0 rfl) ?_
                        refine lv_aload hx hb dL_why_192 (lv_at hl 11 rfl) ?_
                        refine lv_iconst (v := 4) hx hb dL_why_194 (by decide) ?_
                        refine gA (k := 6) (n := 5) (q := 4) hx hb hK hI (by decide) rfl (by unfold vp_in; decide) (by decide) dL_why_195 ?_
                        refine lv_icmp_ge (tgt := 258) hx hb dL_why_196 (by decide) (fun _ => ?_) (fun h => absurd (by rw [hn4]; exact nI_le (by omega) (by omega)) h)
                        have hn9 : n = (S 6 4).toNatClampNeg := by rw [hn4, nI_clamp (by omega)]; omega
                        rw [hn9] at ea205
                        have hl : lv_has ls 13 [(11, .int a205), (10, .int x6), (9, .int x5), (8, .int x4), (7, .int x3), (6, .int x2), (0, .ref (la 0)), (1, .ref (la 1)), (2, .ref (la 3)), (3, .ref (la 4)), (4, .ref (la 6)), (5, .int uj)] := lv_sub hl [1, 2, 3, 4, 5, 6, 7, 8, 9, 10, 11, 12] rfl
                        refine lv_iload hx hb dL_why_258 (lv_at hl 1 rfl) ?_
                        have hJ208 : ∀ (x207 : Int32) (H : Heap) (locs : List Loc), (x207 = if x6 ≤ 0 then (if (x5 + (L_weights S x3)) ≤ (L_bears S x3 (S 0 (32 + x3.toNatClampNeg))) then 0 else 6) else (if a205 = 0 then (if (x5 + (L_weights S x3)) ≤ (L_bears S x3 (S 0 (32 + x3.toNatClampNeg))) then 0 else 6) else 5)) → (fI G.2.2.1 A s.heap (jn w0 (lW G.2.2.2 la S)) H locs) → W p G.1 e ({ frames := 1, cells := 0, slots := 0, locals := 25 }) s m args below meth c H locs 0 0 Q (F0 m 307 ls [.int x207]) := by
                          intro x207 H locs ex207 hI
                          have HE : L_why S uj = x207 := by subst ex207 ea205 ex6 ex5 ex4 ex3 ex2; exact (if_pos c1).trans ((if_neg c7).trans ((if_neg c8).trans ((if_neg c63).trans ((if_neg c118).trans ((if_pos c173).trans ((if_pos c174).trans ((if_neg c199).trans ((if_pos c204)))))))))
                          exact rt_i hx hb hr hlocks hI hA hQ ⟨by rw [HE], rfl⟩ (Nat.zero_le _) (Nat.zero_le _) dL_why_307
                        refine lv_if_le (tgt := 272) hx hb dL_why_260 (by decide) (fun c209 => ?_) (fun c209 => ?_)
                        · refine lv_iload hx hb dL_why_272 (lv_at hl 2 rfl) ?_
                          refine lv_aload_n hx hb dL_why_274 rfl (lv_at hl 8 rfl) ?_
                          refine lv_aload_n hx hb dL_why_275 rfl (lv_at hl 9 rfl) ?_
                          refine lv_aload hx hb dL_why_276 (lv_at hl 10 rfl) ?_
                          refine lv_iload hx hb dL_why_278 (lv_at hl 4 rfl) ?_
                          refine cSv (rest := [.int x5]) hx hb hml hts hown hK hE hI (qL_weights G w0 la S x3 hn4 hnv) kw_100 ⟨Nat.le_of_ble_eq_true rfl, Nat.le_of_ble_eq_true rfl⟩ rfl rfl hl.1 rfl (Nat.le_of_ble_eq_true rfl) dL_why_280 ⟨Nat.zero_le _, Nat.zero_le _⟩ (fun H locs hI => ?_)
                          refine lv_iadd hx hb dL_why_283 ?_
                          refine lv_aload_n hx hb dL_why_284 rfl (lv_at hl 6 rfl) ?_
                          refine lv_aload_n hx hb dL_why_285 rfl (lv_at hl 7 rfl) ?_
                          refine lv_iload hx hb dL_why_286 (lv_at hl 4 rfl) ?_
                          refine lv_aload_n hx hb dL_why_288 rfl (lv_at hl 6 rfl) ?_
                          refine lv_bipush (v := 32) hx hb dL_why_289 (by decide) ?_
                          refine lv_iload hx hb dL_why_291 (lv_at hl 4 rfl) ?_
                          refine lv_iadd hx hb dL_why_293 ?_
                          refine gA (k := 0) (n := 57) (q := 32 + x3.toNatClampNeg) hx hb hK hI (by decide) rfl (vo_i 32 rfl (by subst ex3 ex2; exact hq) (by decide) (by decide)) (vo_c 32 rfl (by subst ex3 ex2; exact hq) (by decide)) dL_why_294 ?_
                          refine cSv (rest := [.int (x5 + (L_weights S x3))]) hx hb hml hts hown hK hE hI (qL_bears G w0 la S x3 (S 0 (32 + x3.toNatClampNeg)) (by subst ex3 ex2; exact hq)) kw_104 ⟨Nat.le_of_ble_eq_true rfl, Nat.le_of_ble_eq_true rfl⟩ rfl rfl hl.1 rfl (Nat.le_of_ble_eq_true rfl) dL_why_295 ⟨Nat.zero_le _, Nat.zero_le _⟩ (fun H locs hI => ?_)
                          refine lv_icmp_le (tgt := 306) hx hb dL_why_298 (by decide) (fun c210 => ?_) (fun c210 => ?_)
                          · refine lv_iconst (v := 0) hx hb dL_why_306 (by decide) ?_
                            exact hJ208 0 _ _ (by exact ((if_pos c209).trans (if_pos c210)).symm) hI
                          · refine lv_bipush (v := 6) hx hb dL_why_301 (by decide) ?_
                            refine lv_goto (tgt := 307) hx hb dL_why_303 (by decide) ?_
                            exact hJ208 6 _ _ (by exact ((if_pos c209).trans (if_neg c210)).symm) hI
                        · refine lv_iload hx hb dL_why_263 (lv_at hl 0 rfl) ?_
                          refine lv_if_eq (tgt := 272) hx hb dL_why_265 (by decide) (fun c211 => ?_) (fun c211 => ?_)
                          · refine lv_iload hx hb dL_why_272 (lv_at hl 2 rfl) ?_
                            refine lv_aload_n hx hb dL_why_274 rfl (lv_at hl 8 rfl) ?_
                            refine lv_aload_n hx hb dL_why_275 rfl (lv_at hl 9 rfl) ?_
                            refine lv_aload hx hb dL_why_276 (lv_at hl 10 rfl) ?_
                            refine lv_iload hx hb dL_why_278 (lv_at hl 4 rfl) ?_
                            refine cSv (rest := [.int x5]) hx hb hml hts hown hK hE hI (qL_weights G w0 la S x3 hn4 hnv) kw_100 ⟨Nat.le_of_ble_eq_true rfl, Nat.le_of_ble_eq_true rfl⟩ rfl rfl hl.1 rfl (Nat.le_of_ble_eq_true rfl) dL_why_280 ⟨Nat.zero_le _, Nat.zero_le _⟩ (fun H locs hI => ?_)
                            refine lv_iadd hx hb dL_why_283 ?_
                            refine lv_aload_n hx hb dL_why_284 rfl (lv_at hl 6 rfl) ?_
                            refine lv_aload_n hx hb dL_why_285 rfl (lv_at hl 7 rfl) ?_
                            refine lv_iload hx hb dL_why_286 (lv_at hl 4 rfl) ?_
                            refine lv_aload_n hx hb dL_why_288 rfl (lv_at hl 6 rfl) ?_
                            refine lv_bipush (v := 32) hx hb dL_why_289 (by decide) ?_
                            refine lv_iload hx hb dL_why_291 (lv_at hl 4 rfl) ?_
                            refine lv_iadd hx hb dL_why_293 ?_
                            refine gA (k := 0) (n := 57) (q := 32 + x3.toNatClampNeg) hx hb hK hI (by decide) rfl (vo_i 32 rfl (by subst ex3 ex2; exact hq) (by decide) (by decide)) (vo_c 32 rfl (by subst ex3 ex2; exact hq) (by decide)) dL_why_294 ?_
                            refine cSv (rest := [.int (x5 + (L_weights S x3))]) hx hb hml hts hown hK hE hI (qL_bears G w0 la S x3 (S 0 (32 + x3.toNatClampNeg)) (by subst ex3 ex2; exact hq)) kw_104 ⟨Nat.le_of_ble_eq_true rfl, Nat.le_of_ble_eq_true rfl⟩ rfl rfl hl.1 rfl (Nat.le_of_ble_eq_true rfl) dL_why_295 ⟨Nat.zero_le _, Nat.zero_le _⟩ (fun H locs hI => ?_)
                            refine lv_icmp_le (tgt := 306) hx hb dL_why_298 (by decide) (fun c212 => ?_) (fun c212 => ?_)
                            · refine lv_iconst (v := 0) hx hb dL_why_306 (by decide) ?_
                              exact hJ208 0 _ _ (by exact ((if_neg c209).trans ((if_pos c211).trans (if_pos c212))).symm) hI
                            · refine lv_bipush (v := 6) hx hb dL_why_301 (by decide) ?_
                              refine lv_goto (tgt := 307) hx hb dL_why_303 (by decide) ?_
                              exact hJ208 6 _ _ (by exact ((if_neg c209).trans ((if_pos c211).trans (if_neg c212))).symm) hI
                          · refine lv_iconst (v := 5) hx hb dL_why_268 (by decide) ?_
                            refine lv_goto (tgt := 307) hx hb dL_why_269 (by decide) ?_
                            exact hJ208 5 _ _ (by exact ((if_neg c209).trans (if_neg c211)).symm) hI
                      | succ k ih =>
                        intro n hnk i_ a205 H locs ls ei ea205 hI hl
                        subst ei
                        refine lv_iload hx hb dL_why_190 (lv_at hl 0 rfl) ?_
                        refine lv_aload hx hb dL_why_192 (lv_at hl 11 rfl) ?_
                        refine lv_iconst (v := 4) hx hb dL_why_194 (by decide) ?_
                        refine gA (k := 6) (n := 5) (q := 4) hx hb hK hI (by decide) rfl (by unfold vp_in; decide) (by decide) dL_why_195 ?_
                        refine lv_icmp_ge (tgt := 258) hx hb dL_why_196 (by decide) (fun h => absurd h (by rw [hn4]; exact nI_ge (by omega) (by omega))) (fun _ => ?_)
                        refine lv_iload hx hb dL_why_199 (lv_at hl 1 rfl) ?_
                        have hJ213 : W p G.1 e ({ frames := 1, cells := 0, slots := 0, locals := 25 }) s m args below meth c H locs 0 0 Q (F0 m 250 ls [.int (bI ((¬ (a205 = 0)) ∨ ((((S 3 n) - (S 3 n) / 8 * 8) = 1) ∧ (((((S 3 n) / 8) - ((S 3 n) / 8) / 16 * 16) = x3) ∧ (¬ ((((S 3 n) / 128) - ((S 3 n) / 128) / 2 * 2) = x2))))))]) := by
                          refine lv_istore (lv' := [(11, .int (bI ((¬ (a205 = 0)) ∨ ((((S 3 n) - (S 3 n) / 8 * 8) = 1) ∧ (((((S 3 n) / 8) - ((S 3 n) / 8) / 16 * 16) = x3) ∧ (¬ ((((S 3 n) / 128) - ((S 3 n) / 128) / 2 * 2) = x2))))))), (12, .int (nI n)), (10, .int x6), (9, .int x5), (8, .int x4), (7, .int x3), (6, .int x2), (0, .ref (la 0)), (1, .ref (la 1)), (2, .ref (la 3)), (3, .ref (la 4)), (4, .ref (la 6)), (5, .int uj)]) hx hb dL_why_250 hl (by decide) rfl (fun ls hl => ?_)
                          obtain ⟨x214, ex214⟩ : ∃ z : Int32, z = (nI n) + 1 := ⟨_, rfl⟩
                          refine lv_iinc (v := x214) (lv' := [(12, .int x214), (11, .int (bI ((¬ (a205 = 0)) ∨ ((((S 3 n) - (S 3 n) / 8 * 8) = 1) ∧ (((((S 3 n) / 8) - ((S 3 n) / 8) / 16 * 16) = x3) ∧ (¬ ((((S 3 n) / 128) - ((S 3 n) / 128) / 2 * 2) = x2))))))), (10, .int x6), (9, .int x5), (8, .int x4), (7, .int x3), (6, .int x2), (0, .ref (la 0)), (1, .ref (la 1)), (2, .ref (la 3)), (3, .ref (la 4)), (4, .ref (la 6)), (5, .int uj)]) hx hb dL_why_252 hl (k := 1) rfl (by rw [ex214]; rfl) (by decide) rfl (fun ls hl => ?_)
                          refine lv_goto (tgt := 190) hx hb dL_why_255 (by decide) ?_
                          have HE : L_isMet_s S x2 x3 n a205 = bI ((¬ (a205 = 0)) ∨ ((((S 3 n) - (S 3 n) / 8 * 8) = 1) ∧ (((((S 3 n) / 8) - ((S 3 n) / 8) / 16 * 16) = x3) ∧ (¬ ((((S 3 n) / 128) - ((S 3 n) / 128) / 2 * 2) = x2))))) := by subst ex214; exact rfl
                          exact ih (n + 1) (by omega) x214 (bI ((¬ (a205 = 0)) ∨ ((((S 3 n) - (S 3 n) / 8 * 8) = 1) ∧ (((((S 3 n) / 8) - ((S 3 n) / 8) / 16 * 16) = x3) ∧ (¬ ((((S 3 n) / 128) - ((S 3 n) / 128) / 2 * 2) = x2)))))) H locs ls (by rw [ex214]; exact nI_1 n) (by show _ = L_isMet_s S x2 x3 n (L_isMet_f S x2 x3 n); rw [← ea205]; exact HE.symm) hI (lv_sub hl [0, 1, 2, 3, 4, 5, 6, 7, 8, 9, 10, 11, 12] rfl)
                        refine lv_if_ne (tgt := 245) hx hb dL_why_201 (by decide) (fun c215 => ?_) (fun c215 => ?_)
                        · refine lv_iconst (v := 1) hx hb dL_why_245 (by decide) ?_
                          refine lv_goto (tgt := 250) hx hb dL_why_246 (by decide) ?_
                          have eb216 : (1 : Int32) = bI ((¬ (a205 = 0)) ∨ ((((S 3 n) - (S 3 n) / 8 * 8) = 1) ∧ (((((S 3 n) / 8) - ((S 3 n) / 8) / 16 * 16) = x3) ∧ (¬ ((((S 3 n) / 128) - ((S 3 n) / 128) / 2 * 2) = x2))))) := (bI_t (Or.inl c215)).symm
                          rw [eb216]
                          exact hJ213
                        · refine lv_aload_n hx hb dL_why_204 rfl (lv_at hl 9 rfl) ?_
                          refine lv_iload hx hb dL_why_205 (lv_at hl 0 rfl) ?_
                          refine gA (k := 3) (n := 8) (q := n) hx hb hK hI (by decide) rfl (vp_in_nI (Nat.lt_of_lt_of_le (show n < 8 by omega) (by decide)) (by decide)) (nI_clamp (Nat.lt_of_lt_of_le (show n < 8 by omega) (by decide))) dL_why_207 ?_
                          refine lv_bipush (v := 8) hx hb dL_why_208 (by decide) ?_
                          refine lv_irem hx hb dL_why_210 (by decide) ?_
                          refine lv_iconst (v := 1) hx hb dL_why_211 (by decide) ?_
                          refine lv_icmp_ne (tgt := 249) hx hb dL_why_212 (by decide) (fun c217 => ?_) (fun c217 => ?_)
                          · refine lv_iconst (v := 0) hx hb dL_why_249 (by decide) ?_
                            have eb218 : (0 : Int32) = bI ((¬ (a205 = 0)) ∨ ((((S 3 n) - (S 3 n) / 8 * 8) = 1) ∧ (((((S 3 n) / 8) - ((S 3 n) / 8) / 16 * 16) = x3) ∧ (¬ ((((S 3 n) / 128) - ((S 3 n) / 128) / 2 * 2) = x2))))) := (bI_f (fun k => k.elim (fun z => z c215) (fun k => c217 k.1))).symm
                            rw [eb218]
                            exact hJ213
                          · refine lv_aload_n hx hb dL_why_215 rfl (lv_at hl 9 rfl) ?_
                            refine lv_iload hx hb dL_why_216 (lv_at hl 0 rfl) ?_
                            refine gA (k := 3) (n := 8) (q := n) hx hb hK hI (by decide) rfl (vp_in_nI (Nat.lt_of_lt_of_le (show n < 8 by omega) (by decide)) (by decide)) (nI_clamp (Nat.lt_of_lt_of_le (show n < 8 by omega) (by decide))) dL_why_218 ?_
                            refine lv_bipush (v := 8) hx hb dL_why_219 (by decide) ?_
                            refine lv_idiv hx hb dL_why_221 (by decide) ?_
                            refine lv_bipush (v := 16) hx hb dL_why_222 (by decide) ?_
                            refine lv_irem hx hb dL_why_224 (by decide) ?_
                            refine lv_iload hx hb dL_why_225 (lv_at hl 5 rfl) ?_
                            refine lv_icmp_ne (tgt := 249) hx hb dL_why_227 (by decide) (fun c219 => ?_) (fun c219 => ?_)
                            · refine lv_iconst (v := 0) hx hb dL_why_249 (by decide) ?_
                              have eb220 : (0 : Int32) = bI ((¬ (a205 = 0)) ∨ ((((S 3 n) - (S 3 n) / 8 * 8) = 1) ∧ (((((S 3 n) / 8) - ((S 3 n) / 8) / 16 * 16) = x3) ∧ (¬ ((((S 3 n) / 128) - ((S 3 n) / 128) / 2 * 2) = x2))))) := (bI_f (fun k => k.elim (fun z => z c215) (fun k => (fun k => c219 k.1) k.2))).symm
                              rw [eb220]
                              exact hJ213
                            · refine lv_aload_n hx hb dL_why_230 rfl (lv_at hl 9 rfl) ?_
                              refine lv_iload hx hb dL_why_231 (lv_at hl 0 rfl) ?_
                              refine gA (k := 3) (n := 8) (q := n) hx hb hK hI (by decide) rfl (vp_in_nI (Nat.lt_of_lt_of_le (show n < 8 by omega) (by decide)) (by decide)) (nI_clamp (Nat.lt_of_lt_of_le (show n < 8 by omega) (by decide))) dL_why_233 ?_
                              refine lv_sipush (v := 128) hx hb dL_why_234 (by decide) ?_
                              refine lv_idiv hx hb dL_why_237 (by decide) ?_
                              refine lv_iconst (v := 2) hx hb dL_why_238 (by decide) ?_
                              refine lv_irem hx hb dL_why_239 (by decide) ?_
                              refine lv_iload hx hb dL_why_240 (lv_at hl 6 rfl) ?_
                              refine lv_icmp_eq (tgt := 249) hx hb dL_why_242 (by decide) (fun c221 => ?_) (fun c221 => ?_)
                              · refine lv_iconst (v := 0) hx hb dL_why_249 (by decide) ?_
                                have eb222 : (0 : Int32) = bI ((¬ (a205 = 0)) ∨ ((((S 3 n) - (S 3 n) / 8 * 8) = 1) ∧ (((((S 3 n) / 8) - ((S 3 n) / 8) / 16 * 16) = x3) ∧ (¬ ((((S 3 n) / 128) - ((S 3 n) / 128) / 2 * 2) = x2))))) := (bI_f (fun k => k.elim (fun z => z c215) (fun k => (fun k => (fun k => k c221) k.2) k.2))).symm
                                rw [eb222]
                                exact hJ213
                              · refine lv_iconst (v := 1) hx hb dL_why_245 (by decide) ?_
                                refine lv_goto (tgt := 250) hx hb dL_why_246 (by decide) ?_
                                have eb223 : (1 : Int32) = bI ((¬ (a205 = 0)) ∨ ((((S 3 n) - (S 3 n) / 8 * 8) = 1) ∧ (((((S 3 n) / 8) - ((S 3 n) / 8) / 16 * 16) = x3) ∧ (¬ ((((S 3 n) / 128) - ((S 3 n) / 128) / 2 * 2) = x2))))) := (bI_t (Or.inr ⟨c217, ⟨c219, c221⟩⟩)).symm
                                rw [eb223]
                                exact hJ213
                    exact hL206 nv 0 (by omega) 0 0 H locs ls nI_0.symm rfl hI (lv_sub hl [0, 1, 2, 3, 4, 5, 6, 7, 8, 9, 10, 11, 12] rfl)
                  · refine lv_iload hx hb dL_why_164 (lv_at hl 2 rfl) ?_
                    refine lv_iconst (v := 1) hx hb dL_why_166 (by decide) ?_
                    have hJ225 : ∀ (x224 : Int32), (x224 = if x4 = 1 then (if x5 ≤ 5000 then 4 else 3) else 4) → W p G.1 e ({ frames := 1, cells := 0, slots := 0, locals := 25 }) s m args below meth c H locs 0 0 Q (F0 m 183 ls [.int x224]) := by
                      intro x224 ex224
                      have HE : L_why S uj = x224 := by subst ex224 ex6 ex5 ex4 ex3 ex2; exact (if_pos c1).trans ((if_neg c7).trans ((if_neg c8).trans ((if_neg c63).trans ((if_neg c118).trans ((if_pos c173).trans ((if_pos c174).trans ((if_neg c199).trans ((if_neg c204)))))))))
                      exact rt_i hx hb hr hlocks hI hA hQ ⟨by rw [HE], rfl⟩ (Nat.zero_le _) (Nat.zero_le _) dL_why_183
                    refine lv_icmp_ne (tgt := 182) hx hb dL_why_167 (by decide) (fun c226 => ?_) (fun c226 => ?_)
                    · refine lv_iconst (v := 4) hx hb dL_why_182 (by decide) ?_
                      exact hJ225 4 (by exact (if_neg c226).symm)
                    · refine lv_iload hx hb dL_why_170 (lv_at hl 1 rfl) ?_
                      refine lv_sipush (v := 5000) hx hb dL_why_172 (by decide) ?_
                      refine lv_icmp_le (tgt := 182) hx hb dL_why_175 (by decide) (fun c227 => ?_) (fun c227 => ?_)
                      · refine lv_iconst (v := 4) hx hb dL_why_182 (by decide) ?_
                        exact hJ225 4 (by exact ((if_pos c226).trans (if_pos c227)).symm)
                      · refine lv_iconst (v := 3) hx hb dL_why_178 (by decide) ?_
                        refine lv_goto (tgt := 183) hx hb dL_why_179 (by decide) ?_
                        exact hJ225 3 (by exact ((if_pos c226).trans (if_neg c227)).symm)
            · refine lv_iconst (v := 2) hx hb dL_why_123 (by decide) ?_
              have HE : L_why S uj = 2 := by subst ex6 ex5 ex4 ex3 ex2; exact (if_pos c1).trans ((if_neg c7).trans ((if_neg c8).trans ((if_neg c63).trans ((if_neg c118).trans ((if_neg c173))))))
              exact rt_i hx hb hr hlocks hI hA hQ ⟨by rw [HE], rfl⟩ (Nat.zero_le _) (Nat.zero_le _) dL_why_124
    · refine lv_iconst (v := 1) hx hb dL_why_80 (by decide) ?_
      have HE : L_why S uj = 1 := by subst ex6 ex5 ex4 ex3 ex2; exact (if_pos c1).trans ((if_pos c7))
      exact rt_i hx hb hr hlocks hI hA hQ ⟨by rw [HE], rfl⟩ (Nat.zero_le _) (Nat.zero_le _) dL_why_81
  · refine lv_iconst (v := (-1)) hx hb dL_why_11 (by decide) ?_
    have HE : L_why S uj = (-1) := by exact (if_neg c1)
    exact rt_i hx hb hr hlocks hI hA hQ ⟨by rw [HE], rfl⟩ (Nat.zero_le _) (Nat.zero_le _) dL_why_12
theorem un_in {x g : Int32} {P : Prop} [Decidable P] (e : x = if P then g else 3 + g) (h : vp_in g 3) : vp_in x 10 := by
  rw [e]
  split
  · exact vp_up h (by decide)
  · exact vo_i 3 rfl h (by decide) (by decide)
set_option maxHeartbeats 4000000 in
set_option maxRecDepth 100000 in
theorem qL_unloads (G : GX) (w0 : WD) (la : Nat → Nat) (S : LwS) (uj : Int32) (ub : Int32) (hj : vp_in uj 8) (hgd : ¬ ((S 3 uj.toNatClampNeg) / 256) - 1 < 0 → vp_in (((S 3 uj.toNatClampNeg) / 256) - 1) 3) : FC G yL_unloads cL_unloads 6 none ({ frames := 0, cells := 0, slots := 0, locals := 0 }) [.ref (la 3), .ref (la 4), .ref (la 5), .int uj, .int ub] (jn w0 (lW G.2.2.2 la S)) (p0 (jn w0 (lW G.2.2.2 la (L_unloads S uj ub)))) := by
  refine FC.go (lv := [(0, .ref (la 3)), (1, .ref (la 4)), (2, .ref (la 5)), (3, .int uj), (4, .int ub)]) (by decide) (Nat.le_of_ble_eq_true rfl) rfl (fun p e s m args below meth c A H locs ls Q hx hb hr hts hown hml hlocks hnm hK hE hI hA hl hQ => ?_)
  have hown : s.vm.findClass "IcehighwayLaw" = some m.cls := hown
  refine lv_aload_n hx hb dL_unloads_0 rfl (lv_at hl 0 rfl) ?_
  refine lv_iload_n hx hb dL_unloads_1 rfl (lv_at hl 3 rfl) ?_
  refine gA (k := 3) (n := 8) (q := uj.toNatClampNeg) hx hb hK hI (by decide) rfl (vp_up hj (by decide)) rfl dL_unloads_2 ?_
  refine lv_sipush (v := 256) hx hb dL_unloads_3 (by decide) ?_
  refine lv_idiv hx hb dL_unloads_6 (by decide) ?_
  refine lv_iconst (v := 1) hx hb dL_unloads_7 (by decide) ?_
  refine lv_isub hx hb dL_unloads_8 ?_
  obtain ⟨x1, ex1⟩ : ∃ z : Int32, z = ((S 3 uj.toNatClampNeg) / 256) - 1 := ⟨_, rfl⟩
  rw [← ex1]
  refine lv_istore (lv' := [(5, .int x1), (0, .ref (la 3)), (1, .ref (la 4)), (2, .ref (la 5)), (3, .int uj), (4, .int ub)]) hx hb dL_unloads_9 hl (by decide) rfl (fun ls hl => ?_)
  have hgd : ¬ x1 < 0 → vp_in x1 3 := by subst ex1; exact hgd
  refine lv_iload hx hb dL_unloads_11 (lv_at hl 0 rfl) ?_
  have hJ3 : ∀ (S2 : LwS) (H : Heap) (locs : List Loc), (S2 = if x1 < 0 then S else (lset S 5 (if ub = 0 then x1 else (3 + x1)).toNatClampNeg ((S 5 (if ub = 0 then x1 else (3 + x1)).toNatClampNeg) + (if ub = 0 then (-(S 4 (8 + uj.toNatClampNeg))) else (S 4 (8 + uj.toNatClampNeg)))))) → (fI G.2.2.1 A s.heap (jn w0 (lW G.2.2.2 la S2)) H locs) → W p G.1 e ({ frames := 0, cells := 0, slots := 0, locals := 0 }) s m args below meth c H locs 0 0 Q (F0 m 56 ls []) := by
    intro S2 H locs eS2 hI
    refine lv_aload_n hx hb dL_unloads_56 rfl (lv_at hl 1 rfl) ?_
    refine lv_iload_n hx hb dL_unloads_57 rfl (lv_at hl 4 rfl) ?_
    refine lv_dup2_11 hx hb dL_unloads_58 rfl rfl ?_
    refine gA (k := 3) (n := 8) (q := uj.toNatClampNeg) hx hb hK hI (by decide) rfl (vp_up hj (by decide)) rfl dL_unloads_59 ?_
    refine lv_sipush (v := 256) hx hb dL_unloads_60 (by decide) ?_
    refine lv_irem hx hb dL_unloads_63 (by decide) ?_
    obtain ⟨S4, eS4⟩ : ∃ z : LwS, z = lset S2 3 uj.toNatClampNeg ((S2 3 uj.toNatClampNeg) - (S2 3 uj.toNatClampNeg) / 256 * 256) := ⟨_, rfl⟩
    refine sA (k := 3) (n := 8) (q := uj.toNatClampNeg) hx hb hK hI (by decide) rfl (vp_up hj (by decide)) rfl eS4 dL_unloads_64 (fun H locs hI => ?_)
    refine lv_aload_n hx hb dL_unloads_65 rfl (lv_at hl 2 rfl) ?_
    refine lv_bipush (v := 8) hx hb dL_unloads_66 (by decide) ?_
    refine lv_iload_n hx hb dL_unloads_68 rfl (lv_at hl 4 rfl) ?_
    refine lv_iadd hx hb dL_unloads_69 ?_
    refine lv_iconst (v := 0) hx hb dL_unloads_70 (by decide) ?_
    obtain ⟨S5, eS5⟩ : ∃ z : LwS, z = lset S4 4 (8 + uj.toNatClampNeg) 0 := ⟨_, rfl⟩
    refine sA (k := 4) (n := 40) (q := 8 + uj.toNatClampNeg) hx hb hK hI (by decide) rfl (vo_i 8 rfl hj (by decide) (by decide)) (vo_c 8 rfl hj (by decide)) eS5 dL_unloads_71 (fun H locs hI => ?_)
    have HE : L_unloads S uj ub = S5 := by subst eS5 eS4 eS2 ex1; exact rfl
    exact rt_v hx hb hr hlocks hI hA hQ ⟨rfl, by rw [HE]⟩ (Nat.zero_le _) (Nat.zero_le _) dL_unloads_72
  refine lv_if_lt (tgt := 56) hx hb dL_unloads_13 (by decide) (fun c6 => ?_) (fun c6 => ?_)
  · exact hJ3 S _ _ (by exact (if_pos c6).symm) hI
  · refine lv_aload_n hx hb dL_unloads_16 rfl (lv_at hl 3 rfl) ?_
    refine lv_iload hx hb dL_unloads_17 (lv_at hl 5 rfl) ?_
    have hJ8 : ∀ (x7 : Int32), (x7 = if ub = 0 then x1 else (3 + x1)) → W p G.1 e ({ frames := 0, cells := 0, slots := 0, locals := 0 }) s m args below meth c H locs 0 0 Q (F0 m 31 ls [.int x7, .ref (la 5)]) := by
      intro x7 ex7
      refine lv_dup2_11 hx hb dL_unloads_31 rfl rfl ?_
      refine gA (k := 5) (n := 10) (q := x7.toNatClampNeg) hx hb hK hI (by decide) rfl (un_in ex7 (hgd (by exact c6))) rfl dL_unloads_32 ?_
      refine lv_iload hx hb dL_unloads_33 (lv_at hl 5 rfl) ?_
      have hJ10 : ∀ (x9 : Int32), (x9 = if ub = 0 then (-(S 4 (8 + uj.toNatClampNeg))) else (S 4 (8 + uj.toNatClampNeg))) → W p G.1 e ({ frames := 0, cells := 0, slots := 0, locals := 0 }) s m args below meth c H locs 0 0 Q (F0 m 54 ls [.int x9, .int (S 5 x7.toNatClampNeg), .int x7, .ref (la 5)]) := by
        intro x9 ex9
        refine lv_iadd hx hb dL_unloads_54 ?_
        obtain ⟨S11, eS11⟩ : ∃ z : LwS, z = lset S 5 x7.toNatClampNeg ((S 5 x7.toNatClampNeg) + x9) := ⟨_, rfl⟩
        refine sA (k := 5) (n := 10) (q := x7.toNatClampNeg) hx hb hK hI (by decide) rfl (un_in ex7 (hgd (by exact c6))) rfl eS11 dL_unloads_55 (fun H locs hI => ?_)
        exact hJ3 S11 _ _ (by subst eS11 ex9 ex7; exact (if_neg c6).symm) hI
      refine lv_if_eq (tgt := 47) hx hb dL_unloads_35 (by decide) (fun c12 => ?_) (fun c12 => ?_)
      · refine lv_aload_n hx hb dL_unloads_47 rfl (lv_at hl 2 rfl) ?_
        refine lv_bipush (v := 8) hx hb dL_unloads_48 (by decide) ?_
        refine lv_iload_n hx hb dL_unloads_50 rfl (lv_at hl 4 rfl) ?_
        refine lv_iadd hx hb dL_unloads_51 ?_
        refine gA (k := 4) (n := 40) (q := 8 + uj.toNatClampNeg) hx hb hK hI (by decide) rfl (vo_i 8 rfl hj (by decide) (by decide)) (vo_c 8 rfl hj (by decide)) dL_unloads_52 ?_
        refine lv_ineg hx hb dL_unloads_53 ?_
        exact hJ10 (-(S 4 (8 + uj.toNatClampNeg))) (by exact (if_pos c12).symm)
      · refine lv_aload_n hx hb dL_unloads_38 rfl (lv_at hl 2 rfl) ?_
        refine lv_bipush (v := 8) hx hb dL_unloads_39 (by decide) ?_
        refine lv_iload_n hx hb dL_unloads_41 rfl (lv_at hl 4 rfl) ?_
        refine lv_iadd hx hb dL_unloads_42 ?_
        refine gA (k := 4) (n := 40) (q := 8 + uj.toNatClampNeg) hx hb hK hI (by decide) rfl (vo_i 8 rfl hj (by decide) (by decide)) (vo_c 8 rfl hj (by decide)) dL_unloads_43 ?_
        refine lv_goto (tgt := 54) hx hb dL_unloads_44 (by decide) ?_
        exact hJ10 (S 4 (8 + uj.toNatClampNeg)) (by exact (if_neg c12).symm)
    refine lv_if_eq (tgt := 29) hx hb dL_unloads_19 (by decide) (fun c13 => ?_) (fun c13 => ?_)
    · refine lv_iload hx hb dL_unloads_29 (lv_at hl 0 rfl) ?_
      exact hJ8 x1 (by exact (if_pos c13).symm)
    · refine lv_iconst (v := 3) hx hb dL_unloads_22 (by decide) ?_
      refine lv_iload hx hb dL_unloads_23 (lv_at hl 0 rfl) ?_
      refine lv_iadd hx hb dL_unloads_25 ?_
      refine lv_goto (tgt := 31) hx hb dL_unloads_26 (by decide) ?_
      exact hJ8 (3 + x1) (by exact (if_neg c13).symm)
set_option maxHeartbeats 4000000 in
set_option maxRecDepth 100000 in
theorem qL_ends (G : GX) (w0 : WD) (la : Nat → Nat) (S : LwS) {np : Nat} (hn3S : S 6 3 = nI np) (hnp : np ≤ 8) (hn3f : ∀ n, n ≤ np → L_ends_f S n 6 3 = nI np) (hden : ∀ n, n < np → ¬ L_den (L_ends_f S n) n = 0) : FC G yL_ends cL_ends 11 none ({ frames := 0, cells := 0, slots := 0, locals := 0 }) [.ref (la 0), .ref (la 1), .ref (la 6)] (jn w0 (lW G.2.2.2 la S)) (p0 (jn w0 (lW G.2.2.2 la (L_ends S)))) := by
  refine FC.go (lv := [(0, .ref (la 0)), (1, .ref (la 1)), (2, .ref (la 6))]) (by decide) (Nat.le_of_ble_eq_true rfl) rfl (fun p e s m args below meth c A H locs ls Q hx hb hr hts hown hml hlocks hnm hK hE hI hA hl hQ => ?_)
  have hown : s.vm.findClass "IcehighwayLaw" = some m.cls := hown
  refine lv_iconst (v := 0) hx hb dL_ends_0 (by decide) ?_
  refine lv_istore_n (lv' := [(3, .int 0), (0, .ref (la 0)), (1, .ref (la 1)), (2, .ref (la 6))]) hx hb dL_ends_1 rfl hl (by decide) rfl (fun ls hl => ?_)
  have hL3 : ∀ (k n : Nat), n + k = np → ∀ (i_ : Int32) (S2 : LwS) (H : Heap) (locs : List Loc) (ls : Array Slot), (i_ = nI n) → (S2 = L_ends_f S n) → (fI G.2.2.1 A s.heap (jn w0 (lW G.2.2.2 la S2)) H locs) → (lv_has ls 11 [(3, .int i_), (0, .ref (la 0)), (1, .ref (la 1)), (2, .ref (la 6))]) → W p G.1 e ({ frames := 0, cells := 0, slots := 0, locals := 0 }) s m args below meth c H locs 0 0 Q (F0 m 2 ls []) := by
    intro k
    induction k with
    | zero =>
      intro n hnk i_ S2 H locs ls ei eS2 hI hl
      subst ei
      have hn3 : S2 6 3 = nI np := by rw [eS2]; exact hn3f n (by omega)
      have hnS : S2 = L_ends_f S n := eS2
      refine lv_iload_n hx hb dL_ends_2 rfl (lv_at hl 0 rfl) ?_
      refine lv_aload_n hx hb dL_ends_3 rfl (lv_at hl 3 rfl) ?_
      refine lv_iconst (v := 3) hx hb dL_ends_4 (by decide) ?_
      refine gA (k := 6) (n := 5) (q := 3) hx hb hK hI (by decide) rfl (by unfold vp_in; decide) (by decide) dL_ends_5 ?_
      refine lv_icmp_ge (tgt := 382) hx hb dL_ends_6 (by decide) (fun _ => ?_) (fun h => absurd (by rw [hn3]; exact nI_le (by omega) (by omega)) h)
      have hn9 : n = (S 6 3).toNatClampNeg := by rw [hn3S, nI_clamp (by omega)]; omega
      rw [hn9] at eS2
      have hl : lv_has ls 11 [(0, .ref (la 0)), (1, .ref (la 1)), (2, .ref (la 6))] := lv_sub hl [1, 2, 3] rfl
      have HE : L_ends S = S2 := by subst eS2; exact rfl
      exact rt_v hx hb hr hlocks hI hA hQ ⟨rfl, by rw [HE]⟩ (Nat.zero_le _) (Nat.zero_le _) dL_ends_382
    | succ k ih =>
      intro n hnk i_ S2 H locs ls ei eS2 hI hl
      subst ei
      have hn3 : S2 6 3 = nI np := by rw [eS2]; exact hn3f n (by omega)
      have hnS : S2 = L_ends_f S n := eS2
      refine lv_iload_n hx hb dL_ends_2 rfl (lv_at hl 0 rfl) ?_
      refine lv_aload_n hx hb dL_ends_3 rfl (lv_at hl 3 rfl) ?_
      refine lv_iconst (v := 3) hx hb dL_ends_4 (by decide) ?_
      refine gA (k := 6) (n := 5) (q := 3) hx hb hK hI (by decide) rfl (by unfold vp_in; decide) (by decide) dL_ends_5 ?_
      refine lv_icmp_ge (tgt := 382) hx hb dL_ends_6 (by decide) (fun h => absurd h (by rw [hn3]; exact nI_ge (by omega) (by omega))) (fun _ => ?_)
      refine lv_aload_n hx hb dL_ends_9 rfl (lv_at hl 2 rfl) ?_
      refine lv_iload_n hx hb dL_ends_10 rfl (lv_at hl 0 rfl) ?_
      refine gA (k := 1) (n := 9) (q := n) hx hb hK hI (by decide) rfl (vp_in_nI (Nat.lt_of_lt_of_le (show n < 8 by omega) (by decide)) (by decide)) (nI_clamp (Nat.lt_of_lt_of_le (show n < 8 by omega) (by decide))) dL_ends_11 ?_
      refine lv_iconst (v := 4) hx hb dL_ends_12 (by decide) ?_
      refine lv_idiv hx hb dL_ends_13 (by decide) ?_
      refine lv_iconst (v := 4) hx hb dL_ends_14 (by decide) ?_
      refine lv_irem hx hb dL_ends_15 (by decide) ?_
      obtain ⟨x4, ex4⟩ : ∃ z : Int32, z = ((S2 1 n) / 4) - ((S2 1 n) / 4) / 4 * 4 := ⟨_, rfl⟩
      rw [← ex4]
      refine lv_istore (lv' := [(4, .int x4), (3, .int (nI n)), (0, .ref (la 0)), (1, .ref (la 1)), (2, .ref (la 6))]) hx hb dL_ends_16 hl (by decide) rfl (fun ls hl => ?_)
      refine lv_aload_n hx hb dL_ends_18 rfl (lv_at hl 4 rfl) ?_
      refine lv_iconst (v := 1) hx hb dL_ends_19 (by decide) ?_
      refine gA (k := 6) (n := 5) (q := 1) hx hb hK hI (by decide) rfl (by unfold vp_in; decide) (by decide) dL_ends_20 ?_
      refine lv_istore (lv' := [(5, .int (S2 6 1)), (4, .int x4), (3, .int (nI n)), (0, .ref (la 0)), (1, .ref (la 1)), (2, .ref (la 6))]) hx hb dL_ends_21 hl (by decide) rfl (fun ls hl => ?_)
      refine lv_iload hx hb dL_ends_23 (lv_at hl 1 rfl) ?_
      refine lv_istore (lv' := [(6, .int x4), (5, .int (S2 6 1)), (4, .int x4), (3, .int (nI n)), (0, .ref (la 0)), (1, .ref (la 1)), (2, .ref (la 6))]) hx hb dL_ends_25 hl (by decide) rfl (fun ls hl => ?_)
      refine lv_iload hx hb dL_ends_27 (lv_at hl 1 rfl) ?_
      refine lv_if_le (tgt := 212) hx hb dL_ends_29 (by decide) (fun c5 => ?_) (fun c5 => ?_)
      · refine lv_iload hx hb dL_ends_212 (lv_at hl 1 rfl) ?_
        refine lv_if_ge (tgt := 363) hx hb dL_ends_214 (by decide) (fun c6 => ?_) (fun c6 => ?_)
        · refine lv_aload_n hx hb dL_ends_363 rfl (lv_at hl 5 rfl) ?_
          refine lv_iload_n hx hb dL_ends_364 rfl (lv_at hl 3 rfl) ?_
          refine lv_dup2_11 hx hb dL_ends_365 rfl rfl ?_
          refine gA (k := 1) (n := 9) (q := n) hx hb hK hI (by decide) rfl (vp_in_nI (Nat.lt_of_lt_of_le (show n < 8 by omega) (by decide)) (by decide)) (nI_clamp (Nat.lt_of_lt_of_le (show n < 8 by omega) (by decide))) dL_ends_366 ?_
          refine lv_iconst (v := 4) hx hb dL_ends_367 (by decide) ?_
          refine lv_iload hx hb dL_ends_368 (lv_at hl 0 rfl) ?_
          refine lv_iload hx hb dL_ends_370 (lv_at hl 2 rfl) ?_
          refine lv_isub hx hb dL_ends_372 ?_
          refine lv_imul hx hb dL_ends_373 ?_
          refine lv_iadd hx hb dL_ends_374 ?_
          obtain ⟨S7, eS7⟩ : ∃ z : LwS, z = lset S2 1 n ((S2 1 n) + (4 * (x4 - x4))) := ⟨_, rfl⟩
          refine sA (k := 1) (n := 9) (q := n) hx hb hK hI (by decide) rfl (vp_in_nI (Nat.lt_of_lt_of_le (show n < 8 by omega) (by decide)) (by decide)) (nI_clamp (Nat.lt_of_lt_of_le (show n < 8 by omega) (by decide))) eS7 dL_ends_375 (fun H locs hI => ?_)
          obtain ⟨x8, ex8⟩ : ∃ z : Int32, z = (nI n) + 1 := ⟨_, rfl⟩
          refine lv_iinc (v := x8) (lv' := [(3, .int x8), (6, .int x4), (5, .int (S2 6 1)), (4, .int x4), (0, .ref (la 0)), (1, .ref (la 1)), (2, .ref (la 6))]) hx hb dL_ends_376 hl (k := 3) rfl (by rw [ex8]; rfl) (by decide) rfl (fun ls hl => ?_)
          refine lv_goto (tgt := 2) hx hb dL_ends_379 (by decide) ?_
          have HE : L_ends_s S2 n = S7 := by subst ex8 eS7 ex4; exact (if_pos c5).trans ((if_pos c6))
          exact ih (n + 1) (by omega) x8 S7 H locs ls (by rw [ex8]; exact nI_1 n) (by show _ = L_ends_s (L_ends_f S n) n; rw [← eS2]; exact HE.symm) hI (lv_sub hl [0, 4, 5, 6] rfl)
        · refine lv_bipush (v := -6) hx hb dL_ends_217 (by decide) ?_
          refine lv_iload hx hb dL_ends_219 (lv_at hl 1 rfl) ?_
          refine lv_imul hx hb dL_ends_221 ?_
          obtain ⟨x9, ex9⟩ : ∃ z : Int32, z = (-6) * (S2 6 1) := ⟨_, rfl⟩
          rw [← ex9]
          refine lv_istore (lv' := [(7, .int x9), (6, .int x4), (5, .int (S2 6 1)), (4, .int x4), (3, .int (nI n)), (0, .ref (la 0)), (1, .ref (la 1)), (2, .ref (la 6))]) hx hb dL_ends_222 hl (by decide) rfl (fun ls hl => ?_)
          refine lv_iconst (v := 2) hx hb dL_ends_224 (by decide) ?_
          refine lv_istore (lv' := [(8, .int 2), (7, .int x9), (6, .int x4), (5, .int (S2 6 1)), (4, .int x4), (3, .int (nI n)), (0, .ref (la 0)), (1, .ref (la 1)), (2, .ref (la 6))]) hx hb dL_ends_225 hl (by decide) rfl (fun ls hl => ?_)
          refine lv_iload hx hb dL_ends_227 (lv_at hl 0 rfl) ?_
          refine lv_if_lt (tgt := 324) hx hb dL_ends_229 (by decide) (fun h => absurd h (by decide)) (fun _ => ?_)
          refine lv_iload hx hb dL_ends_232 (lv_at hl 0 rfl) ?_
          refine lv_iconst (v := 2) hx hb dL_ends_234 (by decide) ?_
          refine lv_icmp_ne (tgt := 243) hx hb dL_ends_235 (by decide) (fun h => absurd (by decide) h) (fun _ => ?_)
          refine lv_bipush (v := 24) hx hb dL_ends_238 (by decide) ?_
          refine lv_goto (tgt := 248) hx hb dL_ends_240 (by decide) ?_
          refine lv_istore (lv' := [(9, .int 24), (8, .int 2), (7, .int x9), (6, .int x4), (5, .int (S2 6 1)), (4, .int x4), (3, .int (nI n)), (0, .ref (la 0)), (1, .ref (la 1)), (2, .ref (la 6))]) hx hb dL_ends_248 hl (by decide) rfl (fun ls hl => ?_)
          refine lv_aload_n hx hb dL_ends_250 rfl (lv_at hl 7 rfl) ?_
          refine lv_iload hx hb dL_ends_251 (lv_at hl 0 rfl) ?_
          refine lv_iload_n hx hb dL_ends_253 rfl (lv_at hl 6 rfl) ?_
          refine lv_iadd hx hb dL_ends_254 ?_
          refine gA (k := 0) (n := 57) (q := 24 + n) hx hb hK hI (by decide) rfl (vo_n 24 rfl (show n < 8 by omega) (by decide) (by decide)) (vo_nc 24 rfl (show n < 8 by omega) (by decide)) dL_ends_255 ?_
          refine lv_iload hx hb dL_ends_256 (lv_at hl 2 rfl) ?_
          have hJ11 : ∀ (x10 : Int32), (x10 = if x9 ≤ (S2 0 (24 + n)) then x9 else (S2 0 (24 + n))) → W p G.1 e ({ frames := 0, cells := 0, slots := 0, locals := 0 }) s m args below meth c H locs 0 0 Q (F0 m 272 ls [.int x10]) := by
            intro x10 ex10
            refine lv_istore (lv' := [(10, .int x10), (9, .int 24), (8, .int 2), (7, .int x9), (6, .int x4), (5, .int (S2 6 1)), (4, .int x4), (3, .int (nI n)), (0, .ref (la 0)), (1, .ref (la 1)), (2, .ref (la 6))]) hx hb dL_ends_272 hl (by decide) rfl (fun ls hl => ?_)
            refine lv_aload_n hx hb dL_ends_274 rfl (lv_at hl 8 rfl) ?_
            refine lv_iload hx hb dL_ends_275 (lv_at hl 1 rfl) ?_
            refine lv_iload_n hx hb dL_ends_277 rfl (lv_at hl 7 rfl) ?_
            refine lv_iadd hx hb dL_ends_278 ?_
            refine lv_dup2_11 hx hb dL_ends_279 rfl rfl ?_
            refine gA (k := 0) (n := 57) (q := 24 + n) hx hb hK hI (by decide) rfl (vo_n 24 rfl (show n < 8 by omega) (by decide) (by decide)) (vo_nc 24 rfl (show n < 8 by omega) (by decide)) dL_ends_280 ?_
            refine lv_iload hx hb dL_ends_281 (lv_at hl 0 rfl) ?_
            refine lv_isub hx hb dL_ends_283 ?_
            obtain ⟨S12, eS12⟩ : ∃ z : LwS, z = lset S2 0 (24 + n) ((S2 0 (24 + n)) - x10) := ⟨_, rfl⟩
            refine sA (k := 0) (n := 57) (q := 24 + n) hx hb hK hI (by decide) rfl (vo_n 24 rfl (show n < 8 by omega) (by decide) (by decide)) (vo_nc 24 rfl (show n < 8 by omega) (by decide)) eS12 dL_ends_284 (fun H locs hI => ?_)
            refine lv_iload hx hb dL_ends_285 (lv_at hl 3 rfl) ?_
            refine lv_iload hx hb dL_ends_287 (lv_at hl 0 rfl) ?_
            refine lv_isub hx hb dL_ends_289 ?_
            refine lv_istore (lv' := [(7, .int (x9 - x10)), (10, .int x10), (9, .int 24), (8, .int 2), (6, .int x4), (5, .int (S2 6 1)), (4, .int x4), (3, .int (nI n)), (0, .ref (la 0)), (1, .ref (la 1)), (2, .ref (la 6))]) hx hb dL_ends_290 hl (by decide) rfl (fun ls hl => ?_)
            refine lv_aload_n hx hb dL_ends_292 rfl (lv_at hl 8 rfl) ?_
            refine lv_bipush (v := 32) hx hb dL_ends_293 (by decide) ?_
            refine lv_iload_n hx hb dL_ends_295 rfl (lv_at hl 7 rfl) ?_
            refine lv_iadd hx hb dL_ends_296 ?_
            refine lv_dup2_11 hx hb dL_ends_297 rfl rfl ?_
            refine gA (k := 0) (n := 57) (q := 32 + n) hx hb hK hI (by decide) rfl (vo_n 32 rfl (show n < 8 by omega) (by decide) (by decide)) (vo_nc 32 rfl (show n < 8 by omega) (by decide)) dL_ends_298 ?_
            refine lv_iload hx hb dL_ends_299 (lv_at hl 3 rfl) ?_
            refine lv_iconst (v := 2) hx hb dL_ends_301 (by decide) ?_
            refine lv_icmp_ne (tgt := 309) hx hb dL_ends_302 (by decide) (fun h => absurd (by decide) h) (fun _ => ?_)
            refine lv_iconst (v := 0) hx hb dL_ends_305 (by decide) ?_
            refine lv_goto (tgt := 316) hx hb dL_ends_306 (by decide) ?_
            refine lv_isub hx hb dL_ends_316 ?_
            obtain ⟨S13, eS13⟩ : ∃ z : LwS, z = lset S12 0 (32 + n) ((S12 0 (32 + n)) - 0) := ⟨_, rfl⟩
            refine sA (k := 0) (n := 57) (q := 32 + n) hx hb hK hI (by decide) rfl (vo_n 32 rfl (show n < 8 by omega) (by decide) (by decide)) (vo_nc 32 rfl (show n < 8 by omega) (by decide)) eS13 dL_ends_317 (fun H locs hI => ?_)
            refine lv_iinc (v := 1) (lv' := [(8, .int 1), (7, .int (x9 - x10)), (10, .int x10), (9, .int 24), (6, .int x4), (5, .int (S2 6 1)), (4, .int x4), (3, .int (nI n)), (0, .ref (la 0)), (1, .ref (la 1)), (2, .ref (la 6))]) hx hb dL_ends_318 hl (k := 3) rfl (by decide) (by decide) rfl (fun ls hl => ?_)
            refine lv_goto (tgt := 227) hx hb dL_ends_321 (by decide) ?_
            refine lv_iload hx hb dL_ends_227 (lv_at hl 0 rfl) ?_
            refine lv_if_lt (tgt := 324) hx hb dL_ends_229 (by decide) (fun h => absurd h (by decide)) (fun _ => ?_)
            refine lv_iload hx hb dL_ends_232 (lv_at hl 0 rfl) ?_
            refine lv_iconst (v := 2) hx hb dL_ends_234 (by decide) ?_
            refine lv_icmp_ne (tgt := 243) hx hb dL_ends_235 (by decide) (fun _ => ?_) (fun h => absurd h (by decide))
            refine lv_bipush (v := 8) hx hb dL_ends_243 (by decide) ?_
            refine lv_iload hx hb dL_ends_245 (lv_at hl 0 rfl) ?_
            refine lv_imul hx hb dL_ends_247 ?_
            rw [show (8 : Int32) * 1 = 8 by decide]
            refine lv_istore (lv' := [(9, .int 8), (8, .int 1), (7, .int (x9 - x10)), (10, .int x10), (6, .int x4), (5, .int (S2 6 1)), (4, .int x4), (3, .int (nI n)), (0, .ref (la 0)), (1, .ref (la 1)), (2, .ref (la 6))]) hx hb dL_ends_248 hl (by decide) rfl (fun ls hl => ?_)
            refine lv_aload_n hx hb dL_ends_250 rfl (lv_at hl 8 rfl) ?_
            refine lv_iload hx hb dL_ends_251 (lv_at hl 0 rfl) ?_
            refine lv_iload_n hx hb dL_ends_253 rfl (lv_at hl 7 rfl) ?_
            refine lv_iadd hx hb dL_ends_254 ?_
            refine gA (k := 0) (n := 57) (q := 8 + n) hx hb hK hI (by decide) rfl (vo_n 8 rfl (show n < 8 by omega) (by decide) (by decide)) (vo_nc 8 rfl (show n < 8 by omega) (by decide)) dL_ends_255 ?_
            refine lv_iload hx hb dL_ends_256 (lv_at hl 2 rfl) ?_
            have hJ15 : ∀ (x14 : Int32), (x14 = if (x9 - x10) ≤ (S13 0 (8 + n)) then (x9 - x10) else (S13 0 (8 + n))) → W p G.1 e ({ frames := 0, cells := 0, slots := 0, locals := 0 }) s m args below meth c H locs 0 0 Q (F0 m 272 ls [.int x14]) := by
              intro x14 ex14
              refine lv_istore (lv' := [(10, .int x14), (9, .int 8), (8, .int 1), (7, .int (x9 - x10)), (6, .int x4), (5, .int (S2 6 1)), (4, .int x4), (3, .int (nI n)), (0, .ref (la 0)), (1, .ref (la 1)), (2, .ref (la 6))]) hx hb dL_ends_272 hl (by decide) rfl (fun ls hl => ?_)
              refine lv_aload_n hx hb dL_ends_274 rfl (lv_at hl 8 rfl) ?_
              refine lv_iload hx hb dL_ends_275 (lv_at hl 1 rfl) ?_
              refine lv_iload_n hx hb dL_ends_277 rfl (lv_at hl 7 rfl) ?_
              refine lv_iadd hx hb dL_ends_278 ?_
              refine lv_dup2_11 hx hb dL_ends_279 rfl rfl ?_
              refine gA (k := 0) (n := 57) (q := 8 + n) hx hb hK hI (by decide) rfl (vo_n 8 rfl (show n < 8 by omega) (by decide) (by decide)) (vo_nc 8 rfl (show n < 8 by omega) (by decide)) dL_ends_280 ?_
              refine lv_iload hx hb dL_ends_281 (lv_at hl 0 rfl) ?_
              refine lv_isub hx hb dL_ends_283 ?_
              obtain ⟨S16, eS16⟩ : ∃ z : LwS, z = lset S13 0 (8 + n) ((S13 0 (8 + n)) - x14) := ⟨_, rfl⟩
              refine sA (k := 0) (n := 57) (q := 8 + n) hx hb hK hI (by decide) rfl (vo_n 8 rfl (show n < 8 by omega) (by decide) (by decide)) (vo_nc 8 rfl (show n < 8 by omega) (by decide)) eS16 dL_ends_284 (fun H locs hI => ?_)
              refine lv_iload hx hb dL_ends_285 (lv_at hl 3 rfl) ?_
              refine lv_iload hx hb dL_ends_287 (lv_at hl 0 rfl) ?_
              refine lv_isub hx hb dL_ends_289 ?_
              obtain ⟨x17, ex17⟩ : ∃ z : Int32, z = (x9 - x10) - x14 := ⟨_, rfl⟩
              rw [← ex17]
              refine lv_istore (lv' := [(7, .int x17), (10, .int x14), (9, .int 8), (8, .int 1), (6, .int x4), (5, .int (S2 6 1)), (4, .int x4), (3, .int (nI n)), (0, .ref (la 0)), (1, .ref (la 1)), (2, .ref (la 6))]) hx hb dL_ends_290 hl (by decide) rfl (fun ls hl => ?_)
              refine lv_aload_n hx hb dL_ends_292 rfl (lv_at hl 8 rfl) ?_
              refine lv_bipush (v := 32) hx hb dL_ends_293 (by decide) ?_
              refine lv_iload_n hx hb dL_ends_295 rfl (lv_at hl 7 rfl) ?_
              refine lv_iadd hx hb dL_ends_296 ?_
              refine lv_dup2_11 hx hb dL_ends_297 rfl rfl ?_
              refine gA (k := 0) (n := 57) (q := 32 + n) hx hb hK hI (by decide) rfl (vo_n 32 rfl (show n < 8 by omega) (by decide) (by decide)) (vo_nc 32 rfl (show n < 8 by omega) (by decide)) dL_ends_298 ?_
              refine lv_iload hx hb dL_ends_299 (lv_at hl 3 rfl) ?_
              refine lv_iconst (v := 2) hx hb dL_ends_301 (by decide) ?_
              refine lv_icmp_ne (tgt := 309) hx hb dL_ends_302 (by decide) (fun _ => ?_) (fun h => absurd h (by decide))
              refine lv_iload hx hb dL_ends_309 (lv_at hl 1 rfl) ?_
              refine lv_iconst (v := 2) hx hb dL_ends_311 (by decide) ?_
              refine lv_iload hx hb dL_ends_312 (lv_at hl 3 rfl) ?_
              refine lv_isub hx hb dL_ends_314 ?_
              rw [show (2 : Int32) - 1 = 1 by decide]
              refine lv_imul hx hb dL_ends_315 ?_
              refine lv_isub hx hb dL_ends_316 ?_
              obtain ⟨S18, eS18⟩ : ∃ z : LwS, z = lset S16 0 (32 + n) ((S16 0 (32 + n)) - (x14 * 1)) := ⟨_, rfl⟩
              refine sA (k := 0) (n := 57) (q := 32 + n) hx hb hK hI (by decide) rfl (vo_n 32 rfl (show n < 8 by omega) (by decide) (by decide)) (vo_nc 32 rfl (show n < 8 by omega) (by decide)) eS18 dL_ends_317 (fun H locs hI => ?_)
              refine lv_iinc (v := 0) (lv' := [(8, .int 0), (7, .int x17), (10, .int x14), (9, .int 8), (6, .int x4), (5, .int (S2 6 1)), (4, .int x4), (3, .int (nI n)), (0, .ref (la 0)), (1, .ref (la 1)), (2, .ref (la 6))]) hx hb dL_ends_318 hl (k := 3) rfl (by decide) (by decide) rfl (fun ls hl => ?_)
              refine lv_goto (tgt := 227) hx hb dL_ends_321 (by decide) ?_
              refine lv_iload hx hb dL_ends_227 (lv_at hl 0 rfl) ?_
              refine lv_if_lt (tgt := 324) hx hb dL_ends_229 (by decide) (fun h => absurd h (by decide)) (fun _ => ?_)
              refine lv_iload hx hb dL_ends_232 (lv_at hl 0 rfl) ?_
              refine lv_iconst (v := 2) hx hb dL_ends_234 (by decide) ?_
              refine lv_icmp_ne (tgt := 243) hx hb dL_ends_235 (by decide) (fun _ => ?_) (fun h => absurd h (by decide))
              refine lv_bipush (v := 8) hx hb dL_ends_243 (by decide) ?_
              refine lv_iload hx hb dL_ends_245 (lv_at hl 0 rfl) ?_
              refine lv_imul hx hb dL_ends_247 ?_
              rw [show (8 : Int32) * 0 = 0 by decide]
              refine lv_istore (lv' := [(9, .int 0), (8, .int 0), (7, .int x17), (10, .int x14), (6, .int x4), (5, .int (S2 6 1)), (4, .int x4), (3, .int (nI n)), (0, .ref (la 0)), (1, .ref (la 1)), (2, .ref (la 6))]) hx hb dL_ends_248 hl (by decide) rfl (fun ls hl => ?_)
              refine lv_aload_n hx hb dL_ends_250 rfl (lv_at hl 8 rfl) ?_
              refine lv_iload hx hb dL_ends_251 (lv_at hl 0 rfl) ?_
              refine lv_iload_n hx hb dL_ends_253 rfl (lv_at hl 7 rfl) ?_
              refine lv_iadd hx hb dL_ends_254 ?_
              refine gA (k := 0) (n := 57) (q := 0 + n) hx hb hK hI (by decide) rfl (vo_n 0 rfl (show n < 8 by omega) (by decide) (by decide)) (vo_nc 0 rfl (show n < 8 by omega) (by decide)) dL_ends_255 ?_
              refine lv_iload hx hb dL_ends_256 (lv_at hl 2 rfl) ?_
              have hJ20 : ∀ (x19 : Int32), (x19 = if x17 ≤ (S18 0 (0 + n)) then x17 else (S18 0 (0 + n))) → W p G.1 e ({ frames := 0, cells := 0, slots := 0, locals := 0 }) s m args below meth c H locs 0 0 Q (F0 m 272 ls [.int x19]) := by
                intro x19 ex19
                refine lv_istore (lv' := [(10, .int x19), (9, .int 0), (8, .int 0), (7, .int x17), (6, .int x4), (5, .int (S2 6 1)), (4, .int x4), (3, .int (nI n)), (0, .ref (la 0)), (1, .ref (la 1)), (2, .ref (la 6))]) hx hb dL_ends_272 hl (by decide) rfl (fun ls hl => ?_)
                refine lv_aload_n hx hb dL_ends_274 rfl (lv_at hl 8 rfl) ?_
                refine lv_iload hx hb dL_ends_275 (lv_at hl 1 rfl) ?_
                refine lv_iload_n hx hb dL_ends_277 rfl (lv_at hl 7 rfl) ?_
                refine lv_iadd hx hb dL_ends_278 ?_
                refine lv_dup2_11 hx hb dL_ends_279 rfl rfl ?_
                refine gA (k := 0) (n := 57) (q := 0 + n) hx hb hK hI (by decide) rfl (vo_n 0 rfl (show n < 8 by omega) (by decide) (by decide)) (vo_nc 0 rfl (show n < 8 by omega) (by decide)) dL_ends_280 ?_
                refine lv_iload hx hb dL_ends_281 (lv_at hl 0 rfl) ?_
                refine lv_isub hx hb dL_ends_283 ?_
                obtain ⟨S21, eS21⟩ : ∃ z : LwS, z = lset S18 0 (0 + n) ((S18 0 (0 + n)) - x19) := ⟨_, rfl⟩
                refine sA (k := 0) (n := 57) (q := 0 + n) hx hb hK hI (by decide) rfl (vo_n 0 rfl (show n < 8 by omega) (by decide) (by decide)) (vo_nc 0 rfl (show n < 8 by omega) (by decide)) eS21 dL_ends_284 (fun H locs hI => ?_)
                refine lv_iload hx hb dL_ends_285 (lv_at hl 3 rfl) ?_
                refine lv_iload hx hb dL_ends_287 (lv_at hl 0 rfl) ?_
                refine lv_isub hx hb dL_ends_289 ?_
                refine lv_istore (lv' := [(7, .int (x17 - x19)), (10, .int x19), (9, .int 0), (8, .int 0), (6, .int x4), (5, .int (S2 6 1)), (4, .int x4), (3, .int (nI n)), (0, .ref (la 0)), (1, .ref (la 1)), (2, .ref (la 6))]) hx hb dL_ends_290 hl (by decide) rfl (fun ls hl => ?_)
                refine lv_aload_n hx hb dL_ends_292 rfl (lv_at hl 8 rfl) ?_
                refine lv_bipush (v := 32) hx hb dL_ends_293 (by decide) ?_
                refine lv_iload_n hx hb dL_ends_295 rfl (lv_at hl 7 rfl) ?_
                refine lv_iadd hx hb dL_ends_296 ?_
                refine lv_dup2_11 hx hb dL_ends_297 rfl rfl ?_
                refine gA (k := 0) (n := 57) (q := 32 + n) hx hb hK hI (by decide) rfl (vo_n 32 rfl (show n < 8 by omega) (by decide) (by decide)) (vo_nc 32 rfl (show n < 8 by omega) (by decide)) dL_ends_298 ?_
                refine lv_iload hx hb dL_ends_299 (lv_at hl 3 rfl) ?_
                refine lv_iconst (v := 2) hx hb dL_ends_301 (by decide) ?_
                refine lv_icmp_ne (tgt := 309) hx hb dL_ends_302 (by decide) (fun _ => ?_) (fun h => absurd h (by decide))
                refine lv_iload hx hb dL_ends_309 (lv_at hl 1 rfl) ?_
                refine lv_iconst (v := 2) hx hb dL_ends_311 (by decide) ?_
                refine lv_iload hx hb dL_ends_312 (lv_at hl 3 rfl) ?_
                refine lv_isub hx hb dL_ends_314 ?_
                rw [show (2 : Int32) - 0 = 2 by decide]
                refine lv_imul hx hb dL_ends_315 ?_
                refine lv_isub hx hb dL_ends_316 ?_
                obtain ⟨S22, eS22⟩ : ∃ z : LwS, z = lset S21 0 (32 + n) ((S21 0 (32 + n)) - (x19 * 2)) := ⟨_, rfl⟩
                refine sA (k := 0) (n := 57) (q := 32 + n) hx hb hK hI (by decide) rfl (vo_n 32 rfl (show n < 8 by omega) (by decide) (by decide)) (vo_nc 32 rfl (show n < 8 by omega) (by decide)) eS22 dL_ends_317 (fun H locs hI => ?_)
                refine lv_iinc (v := (-1)) (lv' := [(8, .int (-1)), (7, .int (x17 - x19)), (10, .int x19), (9, .int 0), (6, .int x4), (5, .int (S2 6 1)), (4, .int x4), (3, .int (nI n)), (0, .ref (la 0)), (1, .ref (la 1)), (2, .ref (la 6))]) hx hb dL_ends_318 hl (k := 3) rfl (by decide) (by decide) rfl (fun ls hl => ?_)
                refine lv_goto (tgt := 227) hx hb dL_ends_321 (by decide) ?_
                refine lv_iload hx hb dL_ends_227 (lv_at hl 0 rfl) ?_
                refine lv_if_lt (tgt := 324) hx hb dL_ends_229 (by decide) (fun _ => ?_) (fun h => absurd (by decide) h)
                refine lv_aload_n hx hb dL_ends_324 rfl (lv_at hl 8 rfl) ?_
                refine lv_bipush (v := 32) hx hb dL_ends_325 (by decide) ?_
                refine lv_iload_n hx hb dL_ends_327 rfl (lv_at hl 7 rfl) ?_
                refine lv_iadd hx hb dL_ends_328 ?_
                refine lv_aload_n hx hb dL_ends_329 rfl (lv_at hl 8 rfl) ?_
                refine lv_bipush (v := 32) hx hb dL_ends_330 (by decide) ?_
                refine lv_iload_n hx hb dL_ends_332 rfl (lv_at hl 7 rfl) ?_
                refine lv_iadd hx hb dL_ends_333 ?_
                refine gA (k := 0) (n := 57) (q := 32 + n) hx hb hK hI (by decide) rfl (vo_n 32 rfl (show n < 8 by omega) (by decide) (by decide)) (vo_nc 32 rfl (show n < 8 by omega) (by decide)) dL_ends_334 ?_
                have hJ24 : ∀ (x23 : Int32), (x23 = if 0 ≤ (S22 0 (32 + n)) then (S22 0 (32 + n)) else 0) → W p G.1 e ({ frames := 0, cells := 0, slots := 0, locals := 0 }) s m args below meth c H locs 0 0 Q (F0 m 348 ls [.int x23, .int (32 + (nI n)), .ref (la 0)]) := by
                  intro x23 ex23
                  obtain ⟨S25, eS25⟩ : ∃ z : LwS, z = lset S22 0 (32 + n) x23 := ⟨_, rfl⟩
                  refine sA (k := 0) (n := 57) (q := 32 + n) hx hb hK hI (by decide) rfl (vo_n 32 rfl (show n < 8 by omega) (by decide) (by decide)) (vo_nc 32 rfl (show n < 8 by omega) (by decide)) eS25 dL_ends_348 (fun H locs hI => ?_)
                  refine lv_iload hx hb dL_ends_349 (lv_at hl 6 rfl) ?_
                  refine lv_iconst (v := 1) hx hb dL_ends_351 (by decide) ?_
                  have hJ27 : ∀ (x26 : Int32), (x26 = if x4 = 1 then 2 else x4) → W p G.1 e ({ frames := 0, cells := 0, slots := 0, locals := 0 }) s m args below meth c H locs 0 0 Q (F0 m 361 ls [.int x26]) := by
                    intro x26 ex26
                    refine lv_istore (lv' := [(6, .int x26), (8, .int (-1)), (7, .int (x17 - x19)), (10, .int x19), (9, .int 0), (5, .int (S2 6 1)), (4, .int x4), (3, .int (nI n)), (0, .ref (la 0)), (1, .ref (la 1)), (2, .ref (la 6))]) hx hb dL_ends_361 hl (by decide) rfl (fun ls hl => ?_)
                    refine lv_aload_n hx hb dL_ends_363 rfl (lv_at hl 9 rfl) ?_
                    refine lv_iload_n hx hb dL_ends_364 rfl (lv_at hl 7 rfl) ?_
                    refine lv_dup2_11 hx hb dL_ends_365 rfl rfl ?_
                    refine gA (k := 1) (n := 9) (q := n) hx hb hK hI (by decide) rfl (vp_in_nI (Nat.lt_of_lt_of_le (show n < 8 by omega) (by decide)) (by decide)) (nI_clamp (Nat.lt_of_lt_of_le (show n < 8 by omega) (by decide))) dL_ends_366 ?_
                    refine lv_iconst (v := 4) hx hb dL_ends_367 (by decide) ?_
                    refine lv_iload hx hb dL_ends_368 (lv_at hl 0 rfl) ?_
                    refine lv_iload hx hb dL_ends_370 (lv_at hl 6 rfl) ?_
                    refine lv_isub hx hb dL_ends_372 ?_
                    refine lv_imul hx hb dL_ends_373 ?_
                    refine lv_iadd hx hb dL_ends_374 ?_
                    obtain ⟨S28, eS28⟩ : ∃ z : LwS, z = lset S25 1 n ((S25 1 n) + (4 * (x26 - x4))) := ⟨_, rfl⟩
                    refine sA (k := 1) (n := 9) (q := n) hx hb hK hI (by decide) rfl (vp_in_nI (Nat.lt_of_lt_of_le (show n < 8 by omega) (by decide)) (by decide)) (nI_clamp (Nat.lt_of_lt_of_le (show n < 8 by omega) (by decide))) eS28 dL_ends_375 (fun H locs hI => ?_)
                    obtain ⟨x29, ex29⟩ : ∃ z : Int32, z = (nI n) + 1 := ⟨_, rfl⟩
                    refine lv_iinc (v := x29) (lv' := [(3, .int x29), (6, .int x26), (8, .int (-1)), (7, .int (x17 - x19)), (10, .int x19), (9, .int 0), (5, .int (S2 6 1)), (4, .int x4), (0, .ref (la 0)), (1, .ref (la 1)), (2, .ref (la 6))]) hx hb dL_ends_376 hl (k := 7) rfl (by rw [ex29]; rfl) (by decide) rfl (fun ls hl => ?_)
                    refine lv_goto (tgt := 2) hx hb dL_ends_379 (by decide) ?_
                    have HE : L_ends_s S2 n = S28 := by subst ex29 eS28 ex26 eS25 ex23 eS22 eS21 ex19 eS18 ex17 eS16 ex14 eS13 eS12 ex10 ex9 ex4; exact (if_pos c5).trans ((if_neg c6))
                    exact ih (n + 1) (by omega) x29 S28 H locs ls (by rw [ex29]; exact nI_1 n) (by show _ = L_ends_s (L_ends_f S n) n; rw [← eS2]; exact HE.symm) hI (lv_sub hl [0, 8, 9, 10] rfl)
                  refine lv_icmp_ne (tgt := 359) hx hb dL_ends_352 (by decide) (fun c30 => ?_) (fun c30 => ?_)
                  · refine lv_iload hx hb dL_ends_359 (lv_at hl 6 rfl) ?_
                    exact hJ27 x4 (by exact (if_neg c30).symm)
                  · refine lv_iconst (v := 2) hx hb dL_ends_355 (by decide) ?_
                    refine lv_goto (tgt := 361) hx hb dL_ends_356 (by decide) ?_
                    exact hJ27 2 (by exact (if_pos c30).symm)
                refine lv_if_ge (tgt := 342) hx hb dL_ends_335 (by decide) (fun c31 => ?_) (fun c31 => ?_)
                · refine lv_aload_n hx hb dL_ends_342 rfl (lv_at hl 8 rfl) ?_
                  refine lv_bipush (v := 32) hx hb dL_ends_343 (by decide) ?_
                  refine lv_iload_n hx hb dL_ends_345 rfl (lv_at hl 7 rfl) ?_
                  refine lv_iadd hx hb dL_ends_346 ?_
                  refine gA (k := 0) (n := 57) (q := 32 + n) hx hb hK hI (by decide) rfl (vo_n 32 rfl (show n < 8 by omega) (by decide) (by decide)) (vo_nc 32 rfl (show n < 8 by omega) (by decide)) dL_ends_347 ?_
                  exact hJ24 (S22 0 (32 + n)) (by exact (if_pos c31).symm)
                · refine lv_iconst (v := 0) hx hb dL_ends_338 (by decide) ?_
                  refine lv_goto (tgt := 348) hx hb dL_ends_339 (by decide) ?_
                  exact hJ24 0 (by exact (if_neg c31).symm)
              refine lv_icmp_ge (tgt := 270) hx hb dL_ends_258 (by decide) (fun c32 => ?_) (fun c32 => ?_)
              · refine lv_iload hx hb dL_ends_270 (lv_at hl 2 rfl) ?_
                exact hJ20 x17 (by exact (if_pos c32).symm)
              · refine lv_aload_n hx hb dL_ends_261 rfl (lv_at hl 8 rfl) ?_
                refine lv_iload hx hb dL_ends_262 (lv_at hl 0 rfl) ?_
                refine lv_iload_n hx hb dL_ends_264 rfl (lv_at hl 7 rfl) ?_
                refine lv_iadd hx hb dL_ends_265 ?_
                refine gA (k := 0) (n := 57) (q := 0 + n) hx hb hK hI (by decide) rfl (vo_n 0 rfl (show n < 8 by omega) (by decide) (by decide)) (vo_nc 0 rfl (show n < 8 by omega) (by decide)) dL_ends_266 ?_
                refine lv_goto (tgt := 272) hx hb dL_ends_267 (by decide) ?_
                exact hJ20 (S18 0 (0 + n)) (by exact (if_neg c32).symm)
            refine lv_icmp_ge (tgt := 270) hx hb dL_ends_258 (by decide) (fun c33 => ?_) (fun c33 => ?_)
            · refine lv_iload hx hb dL_ends_270 (lv_at hl 2 rfl) ?_
              exact hJ15 (x9 - x10) (by exact (if_pos c33).symm)
            · refine lv_aload_n hx hb dL_ends_261 rfl (lv_at hl 8 rfl) ?_
              refine lv_iload hx hb dL_ends_262 (lv_at hl 0 rfl) ?_
              refine lv_iload_n hx hb dL_ends_264 rfl (lv_at hl 7 rfl) ?_
              refine lv_iadd hx hb dL_ends_265 ?_
              refine gA (k := 0) (n := 57) (q := 8 + n) hx hb hK hI (by decide) rfl (vo_n 8 rfl (show n < 8 by omega) (by decide) (by decide)) (vo_nc 8 rfl (show n < 8 by omega) (by decide)) dL_ends_266 ?_
              refine lv_goto (tgt := 272) hx hb dL_ends_267 (by decide) ?_
              exact hJ15 (S13 0 (8 + n)) (by exact (if_neg c33).symm)
          refine lv_icmp_ge (tgt := 270) hx hb dL_ends_258 (by decide) (fun c34 => ?_) (fun c34 => ?_)
          · refine lv_iload hx hb dL_ends_270 (lv_at hl 2 rfl) ?_
            exact hJ11 x9 (by exact (if_pos c34).symm)
          · refine lv_aload_n hx hb dL_ends_261 rfl (lv_at hl 7 rfl) ?_
            refine lv_iload hx hb dL_ends_262 (lv_at hl 0 rfl) ?_
            refine lv_iload_n hx hb dL_ends_264 rfl (lv_at hl 6 rfl) ?_
            refine lv_iadd hx hb dL_ends_265 ?_
            refine gA (k := 0) (n := 57) (q := 24 + n) hx hb hK hI (by decide) rfl (vo_n 24 rfl (show n < 8 by omega) (by decide) (by decide)) (vo_nc 24 rfl (show n < 8 by omega) (by decide)) dL_ends_266 ?_
            refine lv_goto (tgt := 272) hx hb dL_ends_267 (by decide) ?_
            exact hJ11 (S2 0 (24 + n)) (by exact (if_neg c34).symm)
      · refine lv_aload_n hx hb dL_ends_32 rfl (lv_at hl 5 rfl) ?_
        refine lv_iload_n hx hb dL_ends_33 rfl (lv_at hl 3 rfl) ?_
        refine gA (k := 1) (n := 9) (q := n) hx hb hK hI (by decide) rfl (vp_in_nI (Nat.lt_of_lt_of_le (show n < 8 by omega) (by decide)) (by decide)) (nI_clamp (Nat.lt_of_lt_of_le (show n < 8 by omega) (by decide))) dL_ends_34 ?_
        refine lv_iconst (v := 4) hx hb dL_ends_35 (by decide) ?_
        refine lv_irem hx hb dL_ends_36 (by decide) ?_
        refine lv_iconst (v := 2) hx hb dL_ends_37 (by decide) ?_
        refine lv_icmp_ge (tgt := 212) hx hb dL_ends_38 (by decide) (fun c35 => ?_) (fun c35 => ?_)
        · refine lv_iload hx hb dL_ends_212 (lv_at hl 1 rfl) ?_
          refine lv_if_ge (tgt := 363) hx hb dL_ends_214 (by decide) (fun c36 => ?_) (fun c36 => ?_)
          · refine lv_aload_n hx hb dL_ends_363 rfl (lv_at hl 5 rfl) ?_
            refine lv_iload_n hx hb dL_ends_364 rfl (lv_at hl 3 rfl) ?_
            refine lv_dup2_11 hx hb dL_ends_365 rfl rfl ?_
            refine gA (k := 1) (n := 9) (q := n) hx hb hK hI (by decide) rfl (vp_in_nI (Nat.lt_of_lt_of_le (show n < 8 by omega) (by decide)) (by decide)) (nI_clamp (Nat.lt_of_lt_of_le (show n < 8 by omega) (by decide))) dL_ends_366 ?_
            refine lv_iconst (v := 4) hx hb dL_ends_367 (by decide) ?_
            refine lv_iload hx hb dL_ends_368 (lv_at hl 0 rfl) ?_
            refine lv_iload hx hb dL_ends_370 (lv_at hl 2 rfl) ?_
            refine lv_isub hx hb dL_ends_372 ?_
            refine lv_imul hx hb dL_ends_373 ?_
            refine lv_iadd hx hb dL_ends_374 ?_
            obtain ⟨S37, eS37⟩ : ∃ z : LwS, z = lset S2 1 n ((S2 1 n) + (4 * (x4 - x4))) := ⟨_, rfl⟩
            refine sA (k := 1) (n := 9) (q := n) hx hb hK hI (by decide) rfl (vp_in_nI (Nat.lt_of_lt_of_le (show n < 8 by omega) (by decide)) (by decide)) (nI_clamp (Nat.lt_of_lt_of_le (show n < 8 by omega) (by decide))) eS37 dL_ends_375 (fun H locs hI => ?_)
            obtain ⟨x38, ex38⟩ : ∃ z : Int32, z = (nI n) + 1 := ⟨_, rfl⟩
            refine lv_iinc (v := x38) (lv' := [(3, .int x38), (6, .int x4), (5, .int (S2 6 1)), (4, .int x4), (0, .ref (la 0)), (1, .ref (la 1)), (2, .ref (la 6))]) hx hb dL_ends_376 hl (k := 3) rfl (by rw [ex38]; rfl) (by decide) rfl (fun ls hl => ?_)
            refine lv_goto (tgt := 2) hx hb dL_ends_379 (by decide) ?_
            have HE : L_ends_s S2 n = S37 := by subst ex38 eS37 ex4; exact (if_neg c5).trans ((if_pos c35).trans ((if_pos c36)))
            exact ih (n + 1) (by omega) x38 S37 H locs ls (by rw [ex38]; exact nI_1 n) (by show _ = L_ends_s (L_ends_f S n) n; rw [← eS2]; exact HE.symm) hI (lv_sub hl [0, 4, 5, 6] rfl)
          · refine lv_bipush (v := -6) hx hb dL_ends_217 (by decide) ?_
            refine lv_iload hx hb dL_ends_219 (lv_at hl 1 rfl) ?_
            refine lv_imul hx hb dL_ends_221 ?_
            obtain ⟨x39, ex39⟩ : ∃ z : Int32, z = (-6) * (S2 6 1) := ⟨_, rfl⟩
            rw [← ex39]
            refine lv_istore (lv' := [(7, .int x39), (6, .int x4), (5, .int (S2 6 1)), (4, .int x4), (3, .int (nI n)), (0, .ref (la 0)), (1, .ref (la 1)), (2, .ref (la 6))]) hx hb dL_ends_222 hl (by decide) rfl (fun ls hl => ?_)
            refine lv_iconst (v := 2) hx hb dL_ends_224 (by decide) ?_
            refine lv_istore (lv' := [(8, .int 2), (7, .int x39), (6, .int x4), (5, .int (S2 6 1)), (4, .int x4), (3, .int (nI n)), (0, .ref (la 0)), (1, .ref (la 1)), (2, .ref (la 6))]) hx hb dL_ends_225 hl (by decide) rfl (fun ls hl => ?_)
            refine lv_iload hx hb dL_ends_227 (lv_at hl 0 rfl) ?_
            refine lv_if_lt (tgt := 324) hx hb dL_ends_229 (by decide) (fun h => absurd h (by decide)) (fun _ => ?_)
            refine lv_iload hx hb dL_ends_232 (lv_at hl 0 rfl) ?_
            refine lv_iconst (v := 2) hx hb dL_ends_234 (by decide) ?_
            refine lv_icmp_ne (tgt := 243) hx hb dL_ends_235 (by decide) (fun h => absurd (by decide) h) (fun _ => ?_)
            refine lv_bipush (v := 24) hx hb dL_ends_238 (by decide) ?_
            refine lv_goto (tgt := 248) hx hb dL_ends_240 (by decide) ?_
            refine lv_istore (lv' := [(9, .int 24), (8, .int 2), (7, .int x39), (6, .int x4), (5, .int (S2 6 1)), (4, .int x4), (3, .int (nI n)), (0, .ref (la 0)), (1, .ref (la 1)), (2, .ref (la 6))]) hx hb dL_ends_248 hl (by decide) rfl (fun ls hl => ?_)
            refine lv_aload_n hx hb dL_ends_250 rfl (lv_at hl 7 rfl) ?_
            refine lv_iload hx hb dL_ends_251 (lv_at hl 0 rfl) ?_
            refine lv_iload_n hx hb dL_ends_253 rfl (lv_at hl 6 rfl) ?_
            refine lv_iadd hx hb dL_ends_254 ?_
            refine gA (k := 0) (n := 57) (q := 24 + n) hx hb hK hI (by decide) rfl (vo_n 24 rfl (show n < 8 by omega) (by decide) (by decide)) (vo_nc 24 rfl (show n < 8 by omega) (by decide)) dL_ends_255 ?_
            refine lv_iload hx hb dL_ends_256 (lv_at hl 2 rfl) ?_
            have hJ41 : ∀ (x40 : Int32), (x40 = if x39 ≤ (S2 0 (24 + n)) then x39 else (S2 0 (24 + n))) → W p G.1 e ({ frames := 0, cells := 0, slots := 0, locals := 0 }) s m args below meth c H locs 0 0 Q (F0 m 272 ls [.int x40]) := by
              intro x40 ex40
              refine lv_istore (lv' := [(10, .int x40), (9, .int 24), (8, .int 2), (7, .int x39), (6, .int x4), (5, .int (S2 6 1)), (4, .int x4), (3, .int (nI n)), (0, .ref (la 0)), (1, .ref (la 1)), (2, .ref (la 6))]) hx hb dL_ends_272 hl (by decide) rfl (fun ls hl => ?_)
              refine lv_aload_n hx hb dL_ends_274 rfl (lv_at hl 8 rfl) ?_
              refine lv_iload hx hb dL_ends_275 (lv_at hl 1 rfl) ?_
              refine lv_iload_n hx hb dL_ends_277 rfl (lv_at hl 7 rfl) ?_
              refine lv_iadd hx hb dL_ends_278 ?_
              refine lv_dup2_11 hx hb dL_ends_279 rfl rfl ?_
              refine gA (k := 0) (n := 57) (q := 24 + n) hx hb hK hI (by decide) rfl (vo_n 24 rfl (show n < 8 by omega) (by decide) (by decide)) (vo_nc 24 rfl (show n < 8 by omega) (by decide)) dL_ends_280 ?_
              refine lv_iload hx hb dL_ends_281 (lv_at hl 0 rfl) ?_
              refine lv_isub hx hb dL_ends_283 ?_
              obtain ⟨S42, eS42⟩ : ∃ z : LwS, z = lset S2 0 (24 + n) ((S2 0 (24 + n)) - x40) := ⟨_, rfl⟩
              refine sA (k := 0) (n := 57) (q := 24 + n) hx hb hK hI (by decide) rfl (vo_n 24 rfl (show n < 8 by omega) (by decide) (by decide)) (vo_nc 24 rfl (show n < 8 by omega) (by decide)) eS42 dL_ends_284 (fun H locs hI => ?_)
              refine lv_iload hx hb dL_ends_285 (lv_at hl 3 rfl) ?_
              refine lv_iload hx hb dL_ends_287 (lv_at hl 0 rfl) ?_
              refine lv_isub hx hb dL_ends_289 ?_
              refine lv_istore (lv' := [(7, .int (x39 - x40)), (10, .int x40), (9, .int 24), (8, .int 2), (6, .int x4), (5, .int (S2 6 1)), (4, .int x4), (3, .int (nI n)), (0, .ref (la 0)), (1, .ref (la 1)), (2, .ref (la 6))]) hx hb dL_ends_290 hl (by decide) rfl (fun ls hl => ?_)
              refine lv_aload_n hx hb dL_ends_292 rfl (lv_at hl 8 rfl) ?_
              refine lv_bipush (v := 32) hx hb dL_ends_293 (by decide) ?_
              refine lv_iload_n hx hb dL_ends_295 rfl (lv_at hl 7 rfl) ?_
              refine lv_iadd hx hb dL_ends_296 ?_
              refine lv_dup2_11 hx hb dL_ends_297 rfl rfl ?_
              refine gA (k := 0) (n := 57) (q := 32 + n) hx hb hK hI (by decide) rfl (vo_n 32 rfl (show n < 8 by omega) (by decide) (by decide)) (vo_nc 32 rfl (show n < 8 by omega) (by decide)) dL_ends_298 ?_
              refine lv_iload hx hb dL_ends_299 (lv_at hl 3 rfl) ?_
              refine lv_iconst (v := 2) hx hb dL_ends_301 (by decide) ?_
              refine lv_icmp_ne (tgt := 309) hx hb dL_ends_302 (by decide) (fun h => absurd (by decide) h) (fun _ => ?_)
              refine lv_iconst (v := 0) hx hb dL_ends_305 (by decide) ?_
              refine lv_goto (tgt := 316) hx hb dL_ends_306 (by decide) ?_
              refine lv_isub hx hb dL_ends_316 ?_
              obtain ⟨S43, eS43⟩ : ∃ z : LwS, z = lset S42 0 (32 + n) ((S42 0 (32 + n)) - 0) := ⟨_, rfl⟩
              refine sA (k := 0) (n := 57) (q := 32 + n) hx hb hK hI (by decide) rfl (vo_n 32 rfl (show n < 8 by omega) (by decide) (by decide)) (vo_nc 32 rfl (show n < 8 by omega) (by decide)) eS43 dL_ends_317 (fun H locs hI => ?_)
              refine lv_iinc (v := 1) (lv' := [(8, .int 1), (7, .int (x39 - x40)), (10, .int x40), (9, .int 24), (6, .int x4), (5, .int (S2 6 1)), (4, .int x4), (3, .int (nI n)), (0, .ref (la 0)), (1, .ref (la 1)), (2, .ref (la 6))]) hx hb dL_ends_318 hl (k := 3) rfl (by decide) (by decide) rfl (fun ls hl => ?_)
              refine lv_goto (tgt := 227) hx hb dL_ends_321 (by decide) ?_
              refine lv_iload hx hb dL_ends_227 (lv_at hl 0 rfl) ?_
              refine lv_if_lt (tgt := 324) hx hb dL_ends_229 (by decide) (fun h => absurd h (by decide)) (fun _ => ?_)
              refine lv_iload hx hb dL_ends_232 (lv_at hl 0 rfl) ?_
              refine lv_iconst (v := 2) hx hb dL_ends_234 (by decide) ?_
              refine lv_icmp_ne (tgt := 243) hx hb dL_ends_235 (by decide) (fun _ => ?_) (fun h => absurd h (by decide))
              refine lv_bipush (v := 8) hx hb dL_ends_243 (by decide) ?_
              refine lv_iload hx hb dL_ends_245 (lv_at hl 0 rfl) ?_
              refine lv_imul hx hb dL_ends_247 ?_
              rw [show (8 : Int32) * 1 = 8 by decide]
              refine lv_istore (lv' := [(9, .int 8), (8, .int 1), (7, .int (x39 - x40)), (10, .int x40), (6, .int x4), (5, .int (S2 6 1)), (4, .int x4), (3, .int (nI n)), (0, .ref (la 0)), (1, .ref (la 1)), (2, .ref (la 6))]) hx hb dL_ends_248 hl (by decide) rfl (fun ls hl => ?_)
              refine lv_aload_n hx hb dL_ends_250 rfl (lv_at hl 8 rfl) ?_
              refine lv_iload hx hb dL_ends_251 (lv_at hl 0 rfl) ?_
              refine lv_iload_n hx hb dL_ends_253 rfl (lv_at hl 7 rfl) ?_
              refine lv_iadd hx hb dL_ends_254 ?_
              refine gA (k := 0) (n := 57) (q := 8 + n) hx hb hK hI (by decide) rfl (vo_n 8 rfl (show n < 8 by omega) (by decide) (by decide)) (vo_nc 8 rfl (show n < 8 by omega) (by decide)) dL_ends_255 ?_
              refine lv_iload hx hb dL_ends_256 (lv_at hl 2 rfl) ?_
              have hJ45 : ∀ (x44 : Int32), (x44 = if (x39 - x40) ≤ (S43 0 (8 + n)) then (x39 - x40) else (S43 0 (8 + n))) → W p G.1 e ({ frames := 0, cells := 0, slots := 0, locals := 0 }) s m args below meth c H locs 0 0 Q (F0 m 272 ls [.int x44]) := by
                intro x44 ex44
                refine lv_istore (lv' := [(10, .int x44), (9, .int 8), (8, .int 1), (7, .int (x39 - x40)), (6, .int x4), (5, .int (S2 6 1)), (4, .int x4), (3, .int (nI n)), (0, .ref (la 0)), (1, .ref (la 1)), (2, .ref (la 6))]) hx hb dL_ends_272 hl (by decide) rfl (fun ls hl => ?_)
                refine lv_aload_n hx hb dL_ends_274 rfl (lv_at hl 8 rfl) ?_
                refine lv_iload hx hb dL_ends_275 (lv_at hl 1 rfl) ?_
                refine lv_iload_n hx hb dL_ends_277 rfl (lv_at hl 7 rfl) ?_
                refine lv_iadd hx hb dL_ends_278 ?_
                refine lv_dup2_11 hx hb dL_ends_279 rfl rfl ?_
                refine gA (k := 0) (n := 57) (q := 8 + n) hx hb hK hI (by decide) rfl (vo_n 8 rfl (show n < 8 by omega) (by decide) (by decide)) (vo_nc 8 rfl (show n < 8 by omega) (by decide)) dL_ends_280 ?_
                refine lv_iload hx hb dL_ends_281 (lv_at hl 0 rfl) ?_
                refine lv_isub hx hb dL_ends_283 ?_
                obtain ⟨S46, eS46⟩ : ∃ z : LwS, z = lset S43 0 (8 + n) ((S43 0 (8 + n)) - x44) := ⟨_, rfl⟩
                refine sA (k := 0) (n := 57) (q := 8 + n) hx hb hK hI (by decide) rfl (vo_n 8 rfl (show n < 8 by omega) (by decide) (by decide)) (vo_nc 8 rfl (show n < 8 by omega) (by decide)) eS46 dL_ends_284 (fun H locs hI => ?_)
                refine lv_iload hx hb dL_ends_285 (lv_at hl 3 rfl) ?_
                refine lv_iload hx hb dL_ends_287 (lv_at hl 0 rfl) ?_
                refine lv_isub hx hb dL_ends_289 ?_
                obtain ⟨x47, ex47⟩ : ∃ z : Int32, z = (x39 - x40) - x44 := ⟨_, rfl⟩
                rw [← ex47]
                refine lv_istore (lv' := [(7, .int x47), (10, .int x44), (9, .int 8), (8, .int 1), (6, .int x4), (5, .int (S2 6 1)), (4, .int x4), (3, .int (nI n)), (0, .ref (la 0)), (1, .ref (la 1)), (2, .ref (la 6))]) hx hb dL_ends_290 hl (by decide) rfl (fun ls hl => ?_)
                refine lv_aload_n hx hb dL_ends_292 rfl (lv_at hl 8 rfl) ?_
                refine lv_bipush (v := 32) hx hb dL_ends_293 (by decide) ?_
                refine lv_iload_n hx hb dL_ends_295 rfl (lv_at hl 7 rfl) ?_
                refine lv_iadd hx hb dL_ends_296 ?_
                refine lv_dup2_11 hx hb dL_ends_297 rfl rfl ?_
                refine gA (k := 0) (n := 57) (q := 32 + n) hx hb hK hI (by decide) rfl (vo_n 32 rfl (show n < 8 by omega) (by decide) (by decide)) (vo_nc 32 rfl (show n < 8 by omega) (by decide)) dL_ends_298 ?_
                refine lv_iload hx hb dL_ends_299 (lv_at hl 3 rfl) ?_
                refine lv_iconst (v := 2) hx hb dL_ends_301 (by decide) ?_
                refine lv_icmp_ne (tgt := 309) hx hb dL_ends_302 (by decide) (fun _ => ?_) (fun h => absurd h (by decide))
                refine lv_iload hx hb dL_ends_309 (lv_at hl 1 rfl) ?_
                refine lv_iconst (v := 2) hx hb dL_ends_311 (by decide) ?_
                refine lv_iload hx hb dL_ends_312 (lv_at hl 3 rfl) ?_
                refine lv_isub hx hb dL_ends_314 ?_
                rw [show (2 : Int32) - 1 = 1 by decide]
                refine lv_imul hx hb dL_ends_315 ?_
                refine lv_isub hx hb dL_ends_316 ?_
                obtain ⟨S48, eS48⟩ : ∃ z : LwS, z = lset S46 0 (32 + n) ((S46 0 (32 + n)) - (x44 * 1)) := ⟨_, rfl⟩
                refine sA (k := 0) (n := 57) (q := 32 + n) hx hb hK hI (by decide) rfl (vo_n 32 rfl (show n < 8 by omega) (by decide) (by decide)) (vo_nc 32 rfl (show n < 8 by omega) (by decide)) eS48 dL_ends_317 (fun H locs hI => ?_)
                refine lv_iinc (v := 0) (lv' := [(8, .int 0), (7, .int x47), (10, .int x44), (9, .int 8), (6, .int x4), (5, .int (S2 6 1)), (4, .int x4), (3, .int (nI n)), (0, .ref (la 0)), (1, .ref (la 1)), (2, .ref (la 6))]) hx hb dL_ends_318 hl (k := 3) rfl (by decide) (by decide) rfl (fun ls hl => ?_)
                refine lv_goto (tgt := 227) hx hb dL_ends_321 (by decide) ?_
                refine lv_iload hx hb dL_ends_227 (lv_at hl 0 rfl) ?_
                refine lv_if_lt (tgt := 324) hx hb dL_ends_229 (by decide) (fun h => absurd h (by decide)) (fun _ => ?_)
                refine lv_iload hx hb dL_ends_232 (lv_at hl 0 rfl) ?_
                refine lv_iconst (v := 2) hx hb dL_ends_234 (by decide) ?_
                refine lv_icmp_ne (tgt := 243) hx hb dL_ends_235 (by decide) (fun _ => ?_) (fun h => absurd h (by decide))
                refine lv_bipush (v := 8) hx hb dL_ends_243 (by decide) ?_
                refine lv_iload hx hb dL_ends_245 (lv_at hl 0 rfl) ?_
                refine lv_imul hx hb dL_ends_247 ?_
                rw [show (8 : Int32) * 0 = 0 by decide]
                refine lv_istore (lv' := [(9, .int 0), (8, .int 0), (7, .int x47), (10, .int x44), (6, .int x4), (5, .int (S2 6 1)), (4, .int x4), (3, .int (nI n)), (0, .ref (la 0)), (1, .ref (la 1)), (2, .ref (la 6))]) hx hb dL_ends_248 hl (by decide) rfl (fun ls hl => ?_)
                refine lv_aload_n hx hb dL_ends_250 rfl (lv_at hl 8 rfl) ?_
                refine lv_iload hx hb dL_ends_251 (lv_at hl 0 rfl) ?_
                refine lv_iload_n hx hb dL_ends_253 rfl (lv_at hl 7 rfl) ?_
                refine lv_iadd hx hb dL_ends_254 ?_
                refine gA (k := 0) (n := 57) (q := 0 + n) hx hb hK hI (by decide) rfl (vo_n 0 rfl (show n < 8 by omega) (by decide) (by decide)) (vo_nc 0 rfl (show n < 8 by omega) (by decide)) dL_ends_255 ?_
                refine lv_iload hx hb dL_ends_256 (lv_at hl 2 rfl) ?_
                have hJ50 : ∀ (x49 : Int32), (x49 = if x47 ≤ (S48 0 (0 + n)) then x47 else (S48 0 (0 + n))) → W p G.1 e ({ frames := 0, cells := 0, slots := 0, locals := 0 }) s m args below meth c H locs 0 0 Q (F0 m 272 ls [.int x49]) := by
                  intro x49 ex49
                  refine lv_istore (lv' := [(10, .int x49), (9, .int 0), (8, .int 0), (7, .int x47), (6, .int x4), (5, .int (S2 6 1)), (4, .int x4), (3, .int (nI n)), (0, .ref (la 0)), (1, .ref (la 1)), (2, .ref (la 6))]) hx hb dL_ends_272 hl (by decide) rfl (fun ls hl => ?_)
                  refine lv_aload_n hx hb dL_ends_274 rfl (lv_at hl 8 rfl) ?_
                  refine lv_iload hx hb dL_ends_275 (lv_at hl 1 rfl) ?_
                  refine lv_iload_n hx hb dL_ends_277 rfl (lv_at hl 7 rfl) ?_
                  refine lv_iadd hx hb dL_ends_278 ?_
                  refine lv_dup2_11 hx hb dL_ends_279 rfl rfl ?_
                  refine gA (k := 0) (n := 57) (q := 0 + n) hx hb hK hI (by decide) rfl (vo_n 0 rfl (show n < 8 by omega) (by decide) (by decide)) (vo_nc 0 rfl (show n < 8 by omega) (by decide)) dL_ends_280 ?_
                  refine lv_iload hx hb dL_ends_281 (lv_at hl 0 rfl) ?_
                  refine lv_isub hx hb dL_ends_283 ?_
                  obtain ⟨S51, eS51⟩ : ∃ z : LwS, z = lset S48 0 (0 + n) ((S48 0 (0 + n)) - x49) := ⟨_, rfl⟩
                  refine sA (k := 0) (n := 57) (q := 0 + n) hx hb hK hI (by decide) rfl (vo_n 0 rfl (show n < 8 by omega) (by decide) (by decide)) (vo_nc 0 rfl (show n < 8 by omega) (by decide)) eS51 dL_ends_284 (fun H locs hI => ?_)
                  refine lv_iload hx hb dL_ends_285 (lv_at hl 3 rfl) ?_
                  refine lv_iload hx hb dL_ends_287 (lv_at hl 0 rfl) ?_
                  refine lv_isub hx hb dL_ends_289 ?_
                  refine lv_istore (lv' := [(7, .int (x47 - x49)), (10, .int x49), (9, .int 0), (8, .int 0), (6, .int x4), (5, .int (S2 6 1)), (4, .int x4), (3, .int (nI n)), (0, .ref (la 0)), (1, .ref (la 1)), (2, .ref (la 6))]) hx hb dL_ends_290 hl (by decide) rfl (fun ls hl => ?_)
                  refine lv_aload_n hx hb dL_ends_292 rfl (lv_at hl 8 rfl) ?_
                  refine lv_bipush (v := 32) hx hb dL_ends_293 (by decide) ?_
                  refine lv_iload_n hx hb dL_ends_295 rfl (lv_at hl 7 rfl) ?_
                  refine lv_iadd hx hb dL_ends_296 ?_
                  refine lv_dup2_11 hx hb dL_ends_297 rfl rfl ?_
                  refine gA (k := 0) (n := 57) (q := 32 + n) hx hb hK hI (by decide) rfl (vo_n 32 rfl (show n < 8 by omega) (by decide) (by decide)) (vo_nc 32 rfl (show n < 8 by omega) (by decide)) dL_ends_298 ?_
                  refine lv_iload hx hb dL_ends_299 (lv_at hl 3 rfl) ?_
                  refine lv_iconst (v := 2) hx hb dL_ends_301 (by decide) ?_
                  refine lv_icmp_ne (tgt := 309) hx hb dL_ends_302 (by decide) (fun _ => ?_) (fun h => absurd h (by decide))
                  refine lv_iload hx hb dL_ends_309 (lv_at hl 1 rfl) ?_
                  refine lv_iconst (v := 2) hx hb dL_ends_311 (by decide) ?_
                  refine lv_iload hx hb dL_ends_312 (lv_at hl 3 rfl) ?_
                  refine lv_isub hx hb dL_ends_314 ?_
                  rw [show (2 : Int32) - 0 = 2 by decide]
                  refine lv_imul hx hb dL_ends_315 ?_
                  refine lv_isub hx hb dL_ends_316 ?_
                  obtain ⟨S52, eS52⟩ : ∃ z : LwS, z = lset S51 0 (32 + n) ((S51 0 (32 + n)) - (x49 * 2)) := ⟨_, rfl⟩
                  refine sA (k := 0) (n := 57) (q := 32 + n) hx hb hK hI (by decide) rfl (vo_n 32 rfl (show n < 8 by omega) (by decide) (by decide)) (vo_nc 32 rfl (show n < 8 by omega) (by decide)) eS52 dL_ends_317 (fun H locs hI => ?_)
                  refine lv_iinc (v := (-1)) (lv' := [(8, .int (-1)), (7, .int (x47 - x49)), (10, .int x49), (9, .int 0), (6, .int x4), (5, .int (S2 6 1)), (4, .int x4), (3, .int (nI n)), (0, .ref (la 0)), (1, .ref (la 1)), (2, .ref (la 6))]) hx hb dL_ends_318 hl (k := 3) rfl (by decide) (by decide) rfl (fun ls hl => ?_)
                  refine lv_goto (tgt := 227) hx hb dL_ends_321 (by decide) ?_
                  refine lv_iload hx hb dL_ends_227 (lv_at hl 0 rfl) ?_
                  refine lv_if_lt (tgt := 324) hx hb dL_ends_229 (by decide) (fun _ => ?_) (fun h => absurd (by decide) h)
                  refine lv_aload_n hx hb dL_ends_324 rfl (lv_at hl 8 rfl) ?_
                  refine lv_bipush (v := 32) hx hb dL_ends_325 (by decide) ?_
                  refine lv_iload_n hx hb dL_ends_327 rfl (lv_at hl 7 rfl) ?_
                  refine lv_iadd hx hb dL_ends_328 ?_
                  refine lv_aload_n hx hb dL_ends_329 rfl (lv_at hl 8 rfl) ?_
                  refine lv_bipush (v := 32) hx hb dL_ends_330 (by decide) ?_
                  refine lv_iload_n hx hb dL_ends_332 rfl (lv_at hl 7 rfl) ?_
                  refine lv_iadd hx hb dL_ends_333 ?_
                  refine gA (k := 0) (n := 57) (q := 32 + n) hx hb hK hI (by decide) rfl (vo_n 32 rfl (show n < 8 by omega) (by decide) (by decide)) (vo_nc 32 rfl (show n < 8 by omega) (by decide)) dL_ends_334 ?_
                  have hJ54 : ∀ (x53 : Int32), (x53 = if 0 ≤ (S52 0 (32 + n)) then (S52 0 (32 + n)) else 0) → W p G.1 e ({ frames := 0, cells := 0, slots := 0, locals := 0 }) s m args below meth c H locs 0 0 Q (F0 m 348 ls [.int x53, .int (32 + (nI n)), .ref (la 0)]) := by
                    intro x53 ex53
                    obtain ⟨S55, eS55⟩ : ∃ z : LwS, z = lset S52 0 (32 + n) x53 := ⟨_, rfl⟩
                    refine sA (k := 0) (n := 57) (q := 32 + n) hx hb hK hI (by decide) rfl (vo_n 32 rfl (show n < 8 by omega) (by decide) (by decide)) (vo_nc 32 rfl (show n < 8 by omega) (by decide)) eS55 dL_ends_348 (fun H locs hI => ?_)
                    refine lv_iload hx hb dL_ends_349 (lv_at hl 6 rfl) ?_
                    refine lv_iconst (v := 1) hx hb dL_ends_351 (by decide) ?_
                    have hJ57 : ∀ (x56 : Int32), (x56 = if x4 = 1 then 2 else x4) → W p G.1 e ({ frames := 0, cells := 0, slots := 0, locals := 0 }) s m args below meth c H locs 0 0 Q (F0 m 361 ls [.int x56]) := by
                      intro x56 ex56
                      refine lv_istore (lv' := [(6, .int x56), (8, .int (-1)), (7, .int (x47 - x49)), (10, .int x49), (9, .int 0), (5, .int (S2 6 1)), (4, .int x4), (3, .int (nI n)), (0, .ref (la 0)), (1, .ref (la 1)), (2, .ref (la 6))]) hx hb dL_ends_361 hl (by decide) rfl (fun ls hl => ?_)
                      refine lv_aload_n hx hb dL_ends_363 rfl (lv_at hl 9 rfl) ?_
                      refine lv_iload_n hx hb dL_ends_364 rfl (lv_at hl 7 rfl) ?_
                      refine lv_dup2_11 hx hb dL_ends_365 rfl rfl ?_
                      refine gA (k := 1) (n := 9) (q := n) hx hb hK hI (by decide) rfl (vp_in_nI (Nat.lt_of_lt_of_le (show n < 8 by omega) (by decide)) (by decide)) (nI_clamp (Nat.lt_of_lt_of_le (show n < 8 by omega) (by decide))) dL_ends_366 ?_
                      refine lv_iconst (v := 4) hx hb dL_ends_367 (by decide) ?_
                      refine lv_iload hx hb dL_ends_368 (lv_at hl 0 rfl) ?_
                      refine lv_iload hx hb dL_ends_370 (lv_at hl 6 rfl) ?_
                      refine lv_isub hx hb dL_ends_372 ?_
                      refine lv_imul hx hb dL_ends_373 ?_
                      refine lv_iadd hx hb dL_ends_374 ?_
                      obtain ⟨S58, eS58⟩ : ∃ z : LwS, z = lset S55 1 n ((S55 1 n) + (4 * (x56 - x4))) := ⟨_, rfl⟩
                      refine sA (k := 1) (n := 9) (q := n) hx hb hK hI (by decide) rfl (vp_in_nI (Nat.lt_of_lt_of_le (show n < 8 by omega) (by decide)) (by decide)) (nI_clamp (Nat.lt_of_lt_of_le (show n < 8 by omega) (by decide))) eS58 dL_ends_375 (fun H locs hI => ?_)
                      obtain ⟨x59, ex59⟩ : ∃ z : Int32, z = (nI n) + 1 := ⟨_, rfl⟩
                      refine lv_iinc (v := x59) (lv' := [(3, .int x59), (6, .int x56), (8, .int (-1)), (7, .int (x47 - x49)), (10, .int x49), (9, .int 0), (5, .int (S2 6 1)), (4, .int x4), (0, .ref (la 0)), (1, .ref (la 1)), (2, .ref (la 6))]) hx hb dL_ends_376 hl (k := 7) rfl (by rw [ex59]; rfl) (by decide) rfl (fun ls hl => ?_)
                      refine lv_goto (tgt := 2) hx hb dL_ends_379 (by decide) ?_
                      have HE : L_ends_s S2 n = S58 := by subst ex59 eS58 ex56 eS55 ex53 eS52 eS51 ex49 eS48 ex47 eS46 ex44 eS43 eS42 ex40 ex39 ex4; exact (if_neg c5).trans ((if_pos c35).trans ((if_neg c36)))
                      exact ih (n + 1) (by omega) x59 S58 H locs ls (by rw [ex59]; exact nI_1 n) (by show _ = L_ends_s (L_ends_f S n) n; rw [← eS2]; exact HE.symm) hI (lv_sub hl [0, 8, 9, 10] rfl)
                    refine lv_icmp_ne (tgt := 359) hx hb dL_ends_352 (by decide) (fun c60 => ?_) (fun c60 => ?_)
                    · refine lv_iload hx hb dL_ends_359 (lv_at hl 6 rfl) ?_
                      exact hJ57 x4 (by exact (if_neg c60).symm)
                    · refine lv_iconst (v := 2) hx hb dL_ends_355 (by decide) ?_
                      refine lv_goto (tgt := 361) hx hb dL_ends_356 (by decide) ?_
                      exact hJ57 2 (by exact (if_pos c60).symm)
                  refine lv_if_ge (tgt := 342) hx hb dL_ends_335 (by decide) (fun c61 => ?_) (fun c61 => ?_)
                  · refine lv_aload_n hx hb dL_ends_342 rfl (lv_at hl 8 rfl) ?_
                    refine lv_bipush (v := 32) hx hb dL_ends_343 (by decide) ?_
                    refine lv_iload_n hx hb dL_ends_345 rfl (lv_at hl 7 rfl) ?_
                    refine lv_iadd hx hb dL_ends_346 ?_
                    refine gA (k := 0) (n := 57) (q := 32 + n) hx hb hK hI (by decide) rfl (vo_n 32 rfl (show n < 8 by omega) (by decide) (by decide)) (vo_nc 32 rfl (show n < 8 by omega) (by decide)) dL_ends_347 ?_
                    exact hJ54 (S52 0 (32 + n)) (by exact (if_pos c61).symm)
                  · refine lv_iconst (v := 0) hx hb dL_ends_338 (by decide) ?_
                    refine lv_goto (tgt := 348) hx hb dL_ends_339 (by decide) ?_
                    exact hJ54 0 (by exact (if_neg c61).symm)
                refine lv_icmp_ge (tgt := 270) hx hb dL_ends_258 (by decide) (fun c62 => ?_) (fun c62 => ?_)
                · refine lv_iload hx hb dL_ends_270 (lv_at hl 2 rfl) ?_
                  exact hJ50 x47 (by exact (if_pos c62).symm)
                · refine lv_aload_n hx hb dL_ends_261 rfl (lv_at hl 8 rfl) ?_
                  refine lv_iload hx hb dL_ends_262 (lv_at hl 0 rfl) ?_
                  refine lv_iload_n hx hb dL_ends_264 rfl (lv_at hl 7 rfl) ?_
                  refine lv_iadd hx hb dL_ends_265 ?_
                  refine gA (k := 0) (n := 57) (q := 0 + n) hx hb hK hI (by decide) rfl (vo_n 0 rfl (show n < 8 by omega) (by decide) (by decide)) (vo_nc 0 rfl (show n < 8 by omega) (by decide)) dL_ends_266 ?_
                  refine lv_goto (tgt := 272) hx hb dL_ends_267 (by decide) ?_
                  exact hJ50 (S48 0 (0 + n)) (by exact (if_neg c62).symm)
              refine lv_icmp_ge (tgt := 270) hx hb dL_ends_258 (by decide) (fun c63 => ?_) (fun c63 => ?_)
              · refine lv_iload hx hb dL_ends_270 (lv_at hl 2 rfl) ?_
                exact hJ45 (x39 - x40) (by exact (if_pos c63).symm)
              · refine lv_aload_n hx hb dL_ends_261 rfl (lv_at hl 8 rfl) ?_
                refine lv_iload hx hb dL_ends_262 (lv_at hl 0 rfl) ?_
                refine lv_iload_n hx hb dL_ends_264 rfl (lv_at hl 7 rfl) ?_
                refine lv_iadd hx hb dL_ends_265 ?_
                refine gA (k := 0) (n := 57) (q := 8 + n) hx hb hK hI (by decide) rfl (vo_n 8 rfl (show n < 8 by omega) (by decide) (by decide)) (vo_nc 8 rfl (show n < 8 by omega) (by decide)) dL_ends_266 ?_
                refine lv_goto (tgt := 272) hx hb dL_ends_267 (by decide) ?_
                exact hJ45 (S43 0 (8 + n)) (by exact (if_neg c63).symm)
            refine lv_icmp_ge (tgt := 270) hx hb dL_ends_258 (by decide) (fun c64 => ?_) (fun c64 => ?_)
            · refine lv_iload hx hb dL_ends_270 (lv_at hl 2 rfl) ?_
              exact hJ41 x39 (by exact (if_pos c64).symm)
            · refine lv_aload_n hx hb dL_ends_261 rfl (lv_at hl 7 rfl) ?_
              refine lv_iload hx hb dL_ends_262 (lv_at hl 0 rfl) ?_
              refine lv_iload_n hx hb dL_ends_264 rfl (lv_at hl 6 rfl) ?_
              refine lv_iadd hx hb dL_ends_265 ?_
              refine gA (k := 0) (n := 57) (q := 24 + n) hx hb hK hI (by decide) rfl (vo_n 24 rfl (show n < 8 by omega) (by decide) (by decide)) (vo_nc 24 rfl (show n < 8 by omega) (by decide)) dL_ends_266 ?_
              refine lv_goto (tgt := 272) hx hb dL_ends_267 (by decide) ?_
              exact hJ41 (S2 0 (24 + n)) (by exact (if_neg c64).symm)
        · refine lv_aload_n hx hb dL_ends_41 rfl (lv_at hl 4 rfl) ?_
          refine lv_bipush (v := 16) hx hb dL_ends_42 (by decide) ?_
          refine lv_iload_n hx hb dL_ends_44 rfl (lv_at hl 3 rfl) ?_
          refine lv_iadd hx hb dL_ends_45 ?_
          refine gA (k := 0) (n := 57) (q := 16 + n) hx hb hK hI (by decide) rfl (vo_n 16 rfl (show n < 8 by omega) (by decide) (by decide)) (vo_nc 16 rfl (show n < 8 by omega) (by decide)) dL_ends_46 ?_
          refine lv_iconst (v := 2) hx hb dL_ends_47 (by decide) ?_
          refine lv_iload hx hb dL_ends_48 (lv_at hl 1 rfl) ?_
          refine lv_imul hx hb dL_ends_50 ?_
          have hJ66 : ∀ (x65 : Int32), (x65 = if (2 * (S2 6 1)) ≤ (S2 0 (16 + n)) then (2 * (S2 6 1)) else (S2 0 (16 + n))) → W p G.1 e ({ frames := 0, cells := 0, slots := 0, locals := 0 }) s m args below meth c H locs 0 0 Q (F0 m 67 ls [.int x65]) := by
            intro x65 ex65
            refine lv_istore (lv' := [(7, .int x65), (6, .int x4), (5, .int (S2 6 1)), (4, .int x4), (3, .int (nI n)), (0, .ref (la 0)), (1, .ref (la 1)), (2, .ref (la 6))]) hx hb dL_ends_67 hl (by decide) rfl (fun ls hl => ?_)
            refine lv_aload_n hx hb dL_ends_69 rfl (lv_at hl 5 rfl) ?_
            refine lv_bipush (v := 16) hx hb dL_ends_70 (by decide) ?_
            refine lv_iload_n hx hb dL_ends_72 rfl (lv_at hl 4 rfl) ?_
            refine lv_iadd hx hb dL_ends_73 ?_
            refine lv_dup2_11 hx hb dL_ends_74 rfl rfl ?_
            refine gA (k := 0) (n := 57) (q := 16 + n) hx hb hK hI (by decide) rfl (vo_n 16 rfl (show n < 8 by omega) (by decide) (by decide)) (vo_nc 16 rfl (show n < 8 by omega) (by decide)) dL_ends_75 ?_
            refine lv_iload hx hb dL_ends_76 (lv_at hl 0 rfl) ?_
            refine lv_isub hx hb dL_ends_78 ?_
            obtain ⟨S67, eS67⟩ : ∃ z : LwS, z = lset S2 0 (16 + n) ((S2 0 (16 + n)) - x65) := ⟨_, rfl⟩
            refine sA (k := 0) (n := 57) (q := 16 + n) hx hb hK hI (by decide) rfl (vo_n 16 rfl (show n < 8 by omega) (by decide) (by decide)) (vo_nc 16 rfl (show n < 8 by omega) (by decide)) eS67 dL_ends_79 (fun H locs hI => ?_)
            refine lv_aload_n hx hb dL_ends_80 rfl (lv_at hl 5 rfl) ?_
            refine lv_bipush (v := 8) hx hb dL_ends_81 (by decide) ?_
            refine lv_iload_n hx hb dL_ends_83 rfl (lv_at hl 4 rfl) ?_
            refine lv_iadd hx hb dL_ends_84 ?_
            refine lv_dup2_11 hx hb dL_ends_85 rfl rfl ?_
            refine gA (k := 0) (n := 57) (q := 8 + n) hx hb hK hI (by decide) rfl (vo_n 8 rfl (show n < 8 by omega) (by decide) (by decide)) (vo_nc 8 rfl (show n < 8 by omega) (by decide)) dL_ends_86 ?_
            refine lv_iload hx hb dL_ends_87 (lv_at hl 0 rfl) ?_
            refine lv_iadd hx hb dL_ends_89 ?_
            obtain ⟨S68, eS68⟩ : ∃ z : LwS, z = lset S67 0 (8 + n) ((S67 0 (8 + n)) + x65) := ⟨_, rfl⟩
            refine sA (k := 0) (n := 57) (q := 8 + n) hx hb hK hI (by decide) rfl (vo_n 8 rfl (show n < 8 by omega) (by decide) (by decide)) (vo_nc 8 rfl (show n < 8 by omega) (by decide)) eS68 dL_ends_90 (fun H locs hI => ?_)
            refine lv_sipush (v := 400) hx hb dL_ends_91 (by decide) ?_
            refine lv_iload hx hb dL_ends_94 (lv_at hl 2 rfl) ?_
            refine lv_imul hx hb dL_ends_96 ?_
            refine lv_aload_n hx hb dL_ends_97 rfl (lv_at hl 5 rfl) ?_
            refine lv_iload_n hx hb dL_ends_98 rfl (lv_at hl 4 rfl) ?_
            refine gA (k := 0) (n := 57) (q := n) hx hb hK hI (by decide) rfl (vp_in_nI (Nat.lt_of_lt_of_le (show n < 8 by omega) (by decide)) (by decide)) (nI_clamp (Nat.lt_of_lt_of_le (show n < 8 by omega) (by decide))) dL_ends_99 ?_
            refine lv_aload_n hx hb dL_ends_100 rfl (lv_at hl 5 rfl) ?_
            refine lv_bipush (v := 8) hx hb dL_ends_101 (by decide) ?_
            refine lv_iload_n hx hb dL_ends_103 rfl (lv_at hl 4 rfl) ?_
            refine lv_iadd hx hb dL_ends_104 ?_
            refine gA (k := 0) (n := 57) (q := 8 + n) hx hb hK hI (by decide) rfl (vo_n 8 rfl (show n < 8 by omega) (by decide) (by decide)) (vo_nc 8 rfl (show n < 8 by omega) (by decide)) dL_ends_105 ?_
            refine lv_iadd hx hb dL_ends_106 ?_
            refine lv_iconst (v := 4) hx hb dL_ends_107 (by decide) ?_
            refine lv_aload_n hx hb dL_ends_108 rfl (lv_at hl 5 rfl) ?_
            refine lv_bipush (v := 24) hx hb dL_ends_109 (by decide) ?_
            refine lv_iload_n hx hb dL_ends_111 rfl (lv_at hl 4 rfl) ?_
            refine lv_iadd hx hb dL_ends_112 ?_
            refine gA (k := 0) (n := 57) (q := 24 + n) hx hb hK hI (by decide) rfl (vo_n 24 rfl (show n < 8 by omega) (by decide) (by decide)) (vo_nc 24 rfl (show n < 8 by omega) (by decide)) dL_ends_113 ?_
            refine lv_imul hx hb dL_ends_114 ?_
            refine lv_iadd hx hb dL_ends_115 ?_
            refine lv_bipush (v := 50) hx hb dL_ends_116 (by decide) ?_
            refine lv_iadd hx hb dL_ends_118 ?_
            refine lv_idiv hx hb dL_ends_119 (by have z := hden n (by omega); rw [← hnS] at z; subst eS68 eS67 ex65 ex4; exact z) ?_
            refine lv_aload_n hx hb dL_ends_120 rfl (lv_at hl 6 rfl) ?_
            refine lv_iload_n hx hb dL_ends_121 rfl (lv_at hl 4 rfl) ?_
            refine gA (k := 1) (n := 9) (q := n) hx hb hK hI (by decide) rfl (vp_in_nI (Nat.lt_of_lt_of_le (show n < 8 by omega) (by decide)) (by decide)) (nI_clamp (Nat.lt_of_lt_of_le (show n < 8 by omega) (by decide))) dL_ends_122 ?_
            refine lv_iconst (v := 4) hx hb dL_ends_123 (by decide) ?_
            refine lv_irem hx hb dL_ends_124 (by decide) ?_
            refine lv_iconst (v := 1) hx hb dL_ends_125 (by decide) ?_
            have hJ70 : ∀ (x69 : Int32), (x69 = if ((S68 1 n) - (S68 1 n) / 4 * 4) = 1 then 2 else 0) → W p G.1 e ({ frames := 0, cells := 0, slots := 0, locals := 0 }) s m args below meth c H locs 0 0 Q (F0 m 134 ls [.int x69, .int ((400 * (S2 6 1)) / ((((S68 0 n) + (S68 0 (8 + n))) + (4 * (S68 0 (24 + n)))) + 50))]) := by
              intro x69 ex69
              refine lv_isub hx hb dL_ends_134 ?_
              obtain ⟨x71, ex71⟩ : ∃ z : Int32, z = ((400 * (S2 6 1)) / ((((S68 0 n) + (S68 0 (8 + n))) + (4 * (S68 0 (24 + n)))) + 50)) - x69 := ⟨_, rfl⟩
              rw [← ex71]
              refine lv_istore (lv' := [(8, .int x71), (7, .int x65), (6, .int x4), (5, .int (S2 6 1)), (4, .int x4), (3, .int (nI n)), (0, .ref (la 0)), (1, .ref (la 1)), (2, .ref (la 6))]) hx hb dL_ends_135 hl (by decide) rfl (fun ls hl => ?_)
              refine lv_aload_n hx hb dL_ends_137 rfl (lv_at hl 6 rfl) ?_
              refine lv_iload_n hx hb dL_ends_138 rfl (lv_at hl 5 rfl) ?_
              refine lv_dup2_11 hx hb dL_ends_139 rfl rfl ?_
              refine gA (k := 0) (n := 57) (q := n) hx hb hK hI (by decide) rfl (vp_in_nI (Nat.lt_of_lt_of_le (show n < 8 by omega) (by decide)) (by decide)) (nI_clamp (Nat.lt_of_lt_of_le (show n < 8 by omega) (by decide))) dL_ends_140 ?_
              refine lv_aload_n hx hb dL_ends_141 rfl (lv_at hl 6 rfl) ?_
              refine lv_bipush (v := 16) hx hb dL_ends_142 (by decide) ?_
              refine lv_iload_n hx hb dL_ends_144 rfl (lv_at hl 5 rfl) ?_
              refine lv_iadd hx hb dL_ends_145 ?_
              refine gA (k := 0) (n := 57) (q := 16 + n) hx hb hK hI (by decide) rfl (vo_n 16 rfl (show n < 8 by omega) (by decide) (by decide)) (vo_nc 16 rfl (show n < 8 by omega) (by decide)) dL_ends_146 ?_
              have hJ73 : ∀ (x72 : Int32), (x72 = if (S68 0 (16 + n)) = 0 then (if x71 ≤ 0 then 0 else x71) else 0) → W p G.1 e ({ frames := 0, cells := 0, slots := 0, locals := 0 }) s m args below meth c H locs 0 0 Q (F0 m 161 ls [.int x72, .int (S68 0 n), .int (nI n), .ref (la 0)]) := by
                intro x72 ex72
                refine lv_iadd hx hb dL_ends_161 ?_
                obtain ⟨S74, eS74⟩ : ∃ z : LwS, z = lset S68 0 n ((S68 0 n) + x72) := ⟨_, rfl⟩
                refine sA (k := 0) (n := 57) (q := n) hx hb hK hI (by decide) rfl (vp_in_nI (Nat.lt_of_lt_of_le (show n < 8 by omega) (by decide)) (by decide)) (nI_clamp (Nat.lt_of_lt_of_le (show n < 8 by omega) (by decide))) eS74 dL_ends_162 (fun H locs hI => ?_)
                refine lv_iload hx hb dL_ends_163 (lv_at hl 3 rfl) ?_
                refine lv_bipush (v := 39) hx hb dL_ends_165 (by decide) ?_
                have hJ76 : ∀ (x75 : Int32), (x75 = if (S2 6 1) ≤ 39 then (if (S2 6 1) ≤ 9 then x4 else (if x4 = 2 then 1 else 0)) else (if x4 = 0 then 1 else x4)) → W p G.1 e ({ frames := 0, cells := 0, slots := 0, locals := 0 }) s m args below meth c H locs 0 0 Q (F0 m 207 ls [.int x75]) := by
                  intro x75 ex75
                  refine lv_istore (lv' := [(6, .int x75), (8, .int x71), (7, .int x65), (5, .int (S2 6 1)), (4, .int x4), (3, .int (nI n)), (0, .ref (la 0)), (1, .ref (la 1)), (2, .ref (la 6))]) hx hb dL_ends_207 hl (by decide) rfl (fun ls hl => ?_)
                  refine lv_goto (tgt := 363) hx hb dL_ends_209 (by decide) ?_
                  refine lv_aload_n hx hb dL_ends_363 rfl (lv_at hl 7 rfl) ?_
                  refine lv_iload_n hx hb dL_ends_364 rfl (lv_at hl 5 rfl) ?_
                  refine lv_dup2_11 hx hb dL_ends_365 rfl rfl ?_
                  refine gA (k := 1) (n := 9) (q := n) hx hb hK hI (by decide) rfl (vp_in_nI (Nat.lt_of_lt_of_le (show n < 8 by omega) (by decide)) (by decide)) (nI_clamp (Nat.lt_of_lt_of_le (show n < 8 by omega) (by decide))) dL_ends_366 ?_
                  refine lv_iconst (v := 4) hx hb dL_ends_367 (by decide) ?_
                  refine lv_iload hx hb dL_ends_368 (lv_at hl 0 rfl) ?_
                  refine lv_iload hx hb dL_ends_370 (lv_at hl 4 rfl) ?_
                  refine lv_isub hx hb dL_ends_372 ?_
                  refine lv_imul hx hb dL_ends_373 ?_
                  refine lv_iadd hx hb dL_ends_374 ?_
                  obtain ⟨S77, eS77⟩ : ∃ z : LwS, z = lset S74 1 n ((S74 1 n) + (4 * (x75 - x4))) := ⟨_, rfl⟩
                  refine sA (k := 1) (n := 9) (q := n) hx hb hK hI (by decide) rfl (vp_in_nI (Nat.lt_of_lt_of_le (show n < 8 by omega) (by decide)) (by decide)) (nI_clamp (Nat.lt_of_lt_of_le (show n < 8 by omega) (by decide))) eS77 dL_ends_375 (fun H locs hI => ?_)
                  obtain ⟨x78, ex78⟩ : ∃ z : Int32, z = (nI n) + 1 := ⟨_, rfl⟩
                  refine lv_iinc (v := x78) (lv' := [(3, .int x78), (6, .int x75), (8, .int x71), (7, .int x65), (5, .int (S2 6 1)), (4, .int x4), (0, .ref (la 0)), (1, .ref (la 1)), (2, .ref (la 6))]) hx hb dL_ends_376 hl (k := 5) rfl (by rw [ex78]; rfl) (by decide) rfl (fun ls hl => ?_)
                  refine lv_goto (tgt := 2) hx hb dL_ends_379 (by decide) ?_
                  have HE : L_ends_s S2 n = S77 := by subst ex78 eS77 ex75 eS74 ex72 ex71 ex69 eS68 eS67 ex65 ex4; exact (if_neg c5).trans ((if_neg c35))
                  exact ih (n + 1) (by omega) x78 S77 H locs ls (by rw [ex78]; exact nI_1 n) (by show _ = L_ends_s (L_ends_f S n) n; rw [← eS2]; exact HE.symm) hI (lv_sub hl [0, 6, 7, 8] rfl)
                refine lv_icmp_le (tgt := 184) hx hb dL_ends_167 (by decide) (fun c79 => ?_) (fun c79 => ?_)
                · refine lv_iload hx hb dL_ends_184 (lv_at hl 3 rfl) ?_
                  refine lv_bipush (v := 9) hx hb dL_ends_186 (by decide) ?_
                  refine lv_icmp_le (tgt := 205) hx hb dL_ends_188 (by decide) (fun c80 => ?_) (fun c80 => ?_)
                  · refine lv_iload hx hb dL_ends_205 (lv_at hl 4 rfl) ?_
                    exact hJ76 x4 (by exact ((if_pos c79).trans (if_pos c80)).symm)
                  · refine lv_iload hx hb dL_ends_191 (lv_at hl 4 rfl) ?_
                    refine lv_iconst (v := 2) hx hb dL_ends_193 (by decide) ?_
                    refine lv_icmp_ne (tgt := 201) hx hb dL_ends_194 (by decide) (fun c81 => ?_) (fun c81 => ?_)
                    · refine lv_iconst (v := 0) hx hb dL_ends_201 (by decide) ?_
                      refine lv_goto (tgt := 207) hx hb dL_ends_202 (by decide) ?_
                      exact hJ76 0 (by exact ((if_pos c79).trans ((if_neg c80).trans (if_neg c81))).symm)
                    · refine lv_iconst (v := 1) hx hb dL_ends_197 (by decide) ?_
                      refine lv_goto (tgt := 207) hx hb dL_ends_198 (by decide) ?_
                      exact hJ76 1 (by exact ((if_pos c79).trans ((if_neg c80).trans (if_pos c81))).symm)
                · refine lv_iload hx hb dL_ends_170 (lv_at hl 4 rfl) ?_
                  refine lv_if_ne (tgt := 179) hx hb dL_ends_172 (by decide) (fun c82 => ?_) (fun c82 => ?_)
                  · refine lv_iload hx hb dL_ends_179 (lv_at hl 4 rfl) ?_
                    refine lv_goto (tgt := 207) hx hb dL_ends_181 (by decide) ?_
                    exact hJ76 x4 (by exact ((if_neg c79).trans (if_neg c82)).symm)
                  · refine lv_iconst (v := 1) hx hb dL_ends_175 (by decide) ?_
                    refine lv_goto (tgt := 207) hx hb dL_ends_176 (by decide) ?_
                    exact hJ76 1 (by exact ((if_neg c79).trans (if_pos c82)).symm)
              refine lv_if_ne (tgt := 160) hx hb dL_ends_147 (by decide) (fun c83 => ?_) (fun c83 => ?_)
              · refine lv_iconst (v := 0) hx hb dL_ends_160 (by decide) ?_
                exact hJ73 0 (by exact (if_neg c83).symm)
              · refine lv_iload hx hb dL_ends_150 (lv_at hl 0 rfl) ?_
                refine lv_if_le (tgt := 160) hx hb dL_ends_152 (by decide) (fun c84 => ?_) (fun c84 => ?_)
                · refine lv_iconst (v := 0) hx hb dL_ends_160 (by decide) ?_
                  exact hJ73 0 (by exact ((if_pos c83).trans (if_pos c84)).symm)
                · refine lv_iload hx hb dL_ends_155 (lv_at hl 0 rfl) ?_
                  refine lv_goto (tgt := 161) hx hb dL_ends_157 (by decide) ?_
                  exact hJ73 x71 (by exact ((if_pos c83).trans (if_neg c84)).symm)
            refine lv_icmp_ne (tgt := 133) hx hb dL_ends_126 (by decide) (fun c85 => ?_) (fun c85 => ?_)
            · refine lv_iconst (v := 0) hx hb dL_ends_133 (by decide) ?_
              exact hJ70 0 (by exact (if_neg c85).symm)
            · refine lv_iconst (v := 2) hx hb dL_ends_129 (by decide) ?_
              refine lv_goto (tgt := 134) hx hb dL_ends_130 (by decide) ?_
              exact hJ70 2 (by exact (if_pos c85).symm)
          refine lv_icmp_ge (tgt := 63) hx hb dL_ends_51 (by decide) (fun c86 => ?_) (fun c86 => ?_)
          · refine lv_iconst (v := 2) hx hb dL_ends_63 (by decide) ?_
            refine lv_iload hx hb dL_ends_64 (lv_at hl 1 rfl) ?_
            refine lv_imul hx hb dL_ends_66 ?_
            exact hJ66 (2 * (S2 6 1)) (by exact (if_pos c86).symm)
          · refine lv_aload_n hx hb dL_ends_54 rfl (lv_at hl 4 rfl) ?_
            refine lv_bipush (v := 16) hx hb dL_ends_55 (by decide) ?_
            refine lv_iload_n hx hb dL_ends_57 rfl (lv_at hl 3 rfl) ?_
            refine lv_iadd hx hb dL_ends_58 ?_
            refine gA (k := 0) (n := 57) (q := 16 + n) hx hb hK hI (by decide) rfl (vo_n 16 rfl (show n < 8 by omega) (by decide) (by decide)) (vo_nc 16 rfl (show n < 8 by omega) (by decide)) dL_ends_59 ?_
            refine lv_goto (tgt := 67) hx hb dL_ends_60 (by decide) ?_
            exact hJ66 (S2 0 (16 + n)) (by exact (if_neg c86).symm)
  exact hL3 np 0 (by omega) 0 S H locs ls nI_0.symm rfl hI (lv_sub hl [0, 1, 2, 3] rfl)
set_option maxHeartbeats 4000000 in
set_option maxRecDepth 100000 in
theorem qL_minute (G : GX) (w0 : WD) (la : Nat → Nat) (S : LwS) {M : MS} {np nv t : Nat} (hR : LRR M S np nv) (hI0 : MI M np nv t) : FC G yL_minute cL_minute 12 none ({ frames := 2, cells := 0, slots := 0, locals := 57 }) [.ref (la 0), .ref (la 1), .ref (la 2), .ref (la 3), .ref (la 4), .ref (la 5), .ref (la 6)] (jn w0 (lW G.2.2.2 la S)) (p0 (jn w0 (lW G.2.2.2 la (L_minute S)))) := by
  refine FC.go (lv := [(0, .ref (la 0)), (1, .ref (la 1)), (2, .ref (la 2)), (3, .ref (la 3)), (4, .ref (la 4)), (5, .ref (la 5)), (6, .ref (la 6))]) (by decide) (Nat.le_of_ble_eq_true rfl) rfl (fun p e s m args below meth c A H locs ls Q hx hb hr hts hown hml hlocks hnm hK hE hI hA hl hQ => ?_)
  have hown : s.vm.findClass "IcehighwayLaw" = some m.cls := hown
  have hnp8 := hR.1
  have hnv8 := hR.2.1
  refine lv_aload hx hb dL_minute_0 (lv_at hl 6 rfl) ?_
  refine lv_iconst (v := 0) hx hb dL_minute_2 (by decide) ?_
  refine lv_dup2_11 hx hb dL_minute_3 rfl rfl ?_
  refine gA (k := 6) (n := 5) (q := 0) hx hb hK hI (by decide) rfl (by unfold vp_in; decide) (by decide) dL_minute_4 ?_
  refine lv_iconst (v := 1) hx hb dL_minute_5 (by decide) ?_
  refine lv_iadd hx hb dL_minute_6 ?_
  obtain ⟨S1, eS1⟩ : ∃ z : LwS, z = lset S 6 0 ((S 6 0) + 1) := ⟨_, rfl⟩
  refine sA (k := 6) (n := 5) (q := 0) hx hb hK hI (by decide) rfl (by unfold vp_in; decide) (by decide) eS1 dL_minute_7 (fun H locs hI => ?_)
  refine lv_aload hx hb dL_minute_8 (lv_at hl 6 rfl) ?_
  refine lv_iconst (v := 0) hx hb dL_minute_10 (by decide) ?_
  refine gA (k := 6) (n := 5) (q := 0) hx hb hK hI (by decide) rfl (by unfold vp_in; decide) (by decide) dL_minute_11 ?_
  refine lv_sipush (v := 1440) hx hb dL_minute_12 (by decide) ?_
  refine lv_irem hx hb dL_minute_15 (by decide) ?_
  have hJ3 : ∀ (S2 : LwS) (H : Heap) (locs : List Loc), (S2 = if ((S1 6 0) - (S1 6 0) / 1440 * 1440) = 0 then (let S2 : LwS := L_ends S1; S2) else S1) → (fI G.2.2.1 A s.heap (jn w0 (lW G.2.2.2 la S2)) H locs) → W p G.1 e ({ frames := 2, cells := 0, slots := 0, locals := 57 }) s m args below meth c H locs 0 0 Q (F0 m 26 ls []) := by
    intro S2 H locs eS2 hI
    refine lv_iconst (v := 0) hx hb dL_minute_26 (by decide) ?_
    refine lv_istore (lv' := [(7, .int 0), (0, .ref (la 0)), (1, .ref (la 1)), (2, .ref (la 2)), (3, .ref (la 3)), (4, .ref (la 4)), (5, .ref (la 5)), (6, .ref (la 6))]) hx hb dL_minute_27 hl (by decide) rfl (fun ls hl => ?_)
    have eF : S2 = L_first S := by subst eS2 eS1; rfl
    have hR2 : LRR (M_first M) S2 np nv := by rw [eF]; exact (L_first_eq hR hI0).1
    have hI2 : MI (M_first M) np nv t := (L_first_eq hR hI0).2
    have hL6 : ∀ (k n : Nat), n + k = nv → ∀ (i_ : Int32) (S5 : LwS) (H : Heap) (locs : List Loc) (ls : Array Slot), (i_ = nI n) → (S5 = L_minute_f S2 n) → (fI G.2.2.1 A s.heap (jn w0 (lW G.2.2.2 la S5)) H locs) → (lv_has ls 12 [(7, .int i_), (0, .ref (la 0)), (1, .ref (la 1)), (2, .ref (la 2)), (3, .ref (la 3)), (4, .ref (la 4)), (5, .ref (la 5)), (6, .ref (la 6))]) → W p G.1 e ({ frames := 2, cells := 0, slots := 0, locals := 57 }) s m args below meth c H locs 0 0 Q (F0 m 29 ls []) := by
      intro k
      induction k with
      | zero =>
        intro n hnk i_ S5 H locs ls ei eS5 hI hl
        subst ei
        have hRn : LRR (M_passes_f (M_first M) n) S5 np nv := by rw [eS5]; exact L_minute_f_eq hR2 hI2 n (by omega)
        have hIn : MI (M_passes_f (M_first M) n) np nv t := MI_passes_f hI2 (by omega)
        have hn4 : S5 6 4 = nI nv := hRn.g.2.2.2.2
        refine lv_iload hx hb dL_minute_29 (lv_at hl 0 rfl) ?_
        refine lv_aload hx hb dL_minute_31 (lv_at hl 7 rfl) ?_
        refine lv_iconst (v := 4) hx hb dL_minute_33 (by decide) ?_
        refine gA (k := 6) (n := 5) (q := 4) hx hb hK hI (by decide) rfl (by unfold vp_in; decide) (by decide) dL_minute_34 ?_
        refine lv_icmp_ge (tgt := 444) hx hb dL_minute_35 (by decide) (fun _ => ?_) (fun h => absurd (by rw [hn4]; exact nI_le (by omega) (by omega)) h)
        have hn9 : n = (S2 6 4).toNatClampNeg := by rw [hR2.g.2.2.2.2, nI_clamp (by omega)]; omega
        rw [hn9] at eS5
        have hl : lv_has ls 12 [(0, .ref (la 0)), (1, .ref (la 1)), (2, .ref (la 2)), (3, .ref (la 3)), (4, .ref (la 4)), (5, .ref (la 5)), (6, .ref (la 6))] := lv_sub hl [1, 2, 3, 4, 5, 6, 7] rfl
        have HE : L_minute S = S5 := by subst eS5 eS2 eS1; exact rfl
        exact rt_v hx hb hr hlocks hI hA hQ ⟨rfl, by rw [HE]⟩ (Nat.zero_le _) (Nat.zero_le _) dL_minute_444
      | succ k ih =>
        intro n hnk i_ S5 H locs ls ei eS5 hI hl
        subst ei
        have hRn : LRR (M_passes_f (M_first M) n) S5 np nv := by rw [eS5]; exact L_minute_f_eq hR2 hI2 n (by omega)
        have hIn : MI (M_passes_f (M_first M) n) np nv t := MI_passes_f hI2 (by omega)
        have hn4 : S5 6 4 = nI nv := hRn.g.2.2.2.2
        refine lv_iload hx hb dL_minute_29 (lv_at hl 0 rfl) ?_
        refine lv_aload hx hb dL_minute_31 (lv_at hl 7 rfl) ?_
        refine lv_iconst (v := 4) hx hb dL_minute_33 (by decide) ?_
        refine gA (k := 6) (n := 5) (q := 4) hx hb hK hI (by decide) rfl (by unfold vp_in; decide) (by decide) dL_minute_34 ?_
        refine lv_icmp_ge (tgt := 444) hx hb dL_minute_35 (by decide) (fun h => absurd h (by rw [hn4]; exact nI_ge (by omega) (by omega))) (fun _ => ?_)
        refine lv_aload_n hx hb dL_minute_38 rfl (lv_at hl 4 rfl) ?_
        refine lv_iload hx hb dL_minute_39 (lv_at hl 0 rfl) ?_
        refine gA (k := 3) (n := 8) (q := n) hx hb hK hI (by decide) rfl (vp_in_nI (Nat.lt_of_lt_of_le (show n < 8 by omega) (by decide)) (by decide)) (nI_clamp (Nat.lt_of_lt_of_le (show n < 8 by omega) (by decide))) dL_minute_41 ?_
        refine lv_sipush (v := 128) hx hb dL_minute_42 (by decide) ?_
        refine lv_idiv hx hb dL_minute_45 (by decide) ?_
        refine lv_iconst (v := 2) hx hb dL_minute_46 (by decide) ?_
        refine lv_irem hx hb dL_minute_47 (by decide) ?_
        obtain ⟨x7, ex7⟩ : ∃ z : Int32, z = ((S5 3 n) / 128) - ((S5 3 n) / 128) / 2 * 2 := ⟨_, rfl⟩
        rw [← ex7]
        refine lv_istore (lv' := [(8, .int x7), (7, .int (nI n)), (0, .ref (la 0)), (1, .ref (la 1)), (2, .ref (la 2)), (3, .ref (la 3)), (4, .ref (la 4)), (5, .ref (la 5)), (6, .ref (la 6))]) hx hb dL_minute_48 hl (by decide) rfl (fun ls hl => ?_)
        refine lv_aload_n hx hb dL_minute_50 rfl (lv_at hl 5 rfl) ?_
        refine lv_iload hx hb dL_minute_51 (lv_at hl 1 rfl) ?_
        refine gA (k := 3) (n := 8) (q := n) hx hb hK hI (by decide) rfl (vp_in_nI (Nat.lt_of_lt_of_le (show n < 8 by omega) (by decide)) (by decide)) (nI_clamp (Nat.lt_of_lt_of_le (show n < 8 by omega) (by decide))) dL_minute_53 ?_
        refine lv_bipush (v := 8) hx hb dL_minute_54 (by decide) ?_
        refine lv_irem hx hb dL_minute_56 (by decide) ?_
        refine lv_iconst (v := 1) hx hb dL_minute_57 (by decide) ?_
        have hJ9 : ∀ (S8 : LwS) (H : Heap) (locs : List Loc) (ls : Array Slot), (S8 = if ((S5 3 n) - (S5 3 n) / 8 * 8) = 1 then (if (S5 6 0) < (S5 4 (32 + n)) then S5 else (let x9 : Int32 := ((S5 3 n) / 8) - ((S5 3 n) / 8) / 16 * 16; (let x10 : Int32 := ((S5 4 n) + (S5 4 (8 + n))) / 20000; (let x11 : Int32 := if ((S5 1 x9.toNatClampNeg) - (S5 1 x9.toNatClampNeg) / 4 * 4) = 2 then 0 else (if x10 ≤ (S5 0 x9.toNatClampNeg) then x10 else (S5 0 x9.toNatClampNeg)); (let S13 : LwS := lset S5 0 x9.toNatClampNeg ((S5 0 x9.toNatClampNeg) - x11); (let S14 : LwS := lset S13 3 n ((S13 3 n) + (1 + (8 * x7))); if (x7 = 1) ∧ (x9 = ((S14 6 3) - 1)) then (let x17 : Int32 := if (x7 = 1) ∧ (x9 = ((S14 6 3) - 1)) then 1 else (-2); (let S19 : LwS := lset S14 3 n ((S14 3 n) + x17); (let S20 : LwS := L_unloads S19 (nI n) (bI ((x7 = 1) ∧ (x9 = ((S14 6 3) - 1)))); S20))) else (if x7 = 0 then (if x9 = 0 then (let x24 : Int32 := if (x7 = 1) ∧ (x9 = ((S14 6 3) - 1)) then 1 else (-2); (let S26 : LwS := lset S14 3 n ((S14 3 n) + x24); (let S27 : LwS := L_unloads S26 (nI n) (bI ((x7 = 1) ∧ (x9 = ((S14 6 3) - 1)))); S27))) else S14) else S14))))))) else S5) → (fI G.2.2.1 A s.heap (jn w0 (lW G.2.2.2 la S8)) H locs) → (lv_has ls 12 [(8, .int x7), (7, .int (nI n)), (0, .ref (la 0)), (1, .ref (la 1)), (2, .ref (la 2)), (3, .ref (la 3)), (4, .ref (la 4)), (5, .ref (la 5)), (6, .ref (la 6))]) → W p G.1 e ({ frames := 2, cells := 0, slots := 0, locals := 57 }) s m args below meth c H locs 0 0 Q (F0 m 230 ls []) := by
          intro S8 H locs ls eS8 hI hl
          have hwy : x7 = (M_passes_f (M_first M) n).1 22 n := ex7.trans (hRn.w (by omega)).way
          have hRl : LRR (if (M_passes_f (M_first M) n).1 20 n = 1 then (if (M_passes_f (M_first M) n).1 0 0 < (M_passes_f (M_first M) n).1 23 n then M_passes_f (M_first M) n else M_leaves (M_passes_f (M_first M) n) (nI n)) else M_passes_f (M_first M) n) S8 np nv := by rw [eS8, hwy]; exact L_left_eq hRn hIn (by omega)
          have hIl := MI_left (j := n) hIn (by omega)
          have hwl : x7 = (if (M_passes_f (M_first M) n).1 20 n = 1 then (if (M_passes_f (M_first M) n).1 0 0 < (M_passes_f (M_first M) n).1 23 n then M_passes_f (M_first M) n else M_leaves (M_passes_f (M_first M) n) (nI n)) else M_passes_f (M_first M) n).1 22 n := hwy.trans L_left_way.symm
          refine lv_aload_n hx hb dL_minute_230 rfl (lv_at hl 5 rfl) ?_
          refine lv_iload hx hb dL_minute_231 (lv_at hl 1 rfl) ?_
          refine gA (k := 3) (n := 8) (q := n) hx hb hK hI (by decide) rfl (vp_in_nI (Nat.lt_of_lt_of_le (show n < 8 by omega) (by decide)) (by decide)) (nI_clamp (Nat.lt_of_lt_of_le (show n < 8 by omega) (by decide))) dL_minute_233 ?_
          refine lv_bipush (v := 8) hx hb dL_minute_234 (by decide) ?_
          refine lv_irem hx hb dL_minute_236 (by decide) ?_
          refine lv_iconst (v := 2) hx hb dL_minute_237 (by decide) ?_
          have hJ11 : ∀ (S10 : LwS) (H : Heap) (locs : List Loc) (ls : Array Slot), (S10 = if ((S8 3 n) - (S8 3 n) / 8 * 8) = 2 then (if (L_why S8 (nI n)) = 0 then (let x11 : Int32 := ((((S8 3 n) / 8) - ((S8 3 n) / 8) / 16 * 16) - 1) + x7; (let S13 : LwS := lset S8 0 (((40 + (8 * x7)) + x11).toNatClampNeg) (S8 6 0); (let S14 : LwS := lset S13 4 (32 + n) ((S13 6 0) + (L_minutes S13 (nI n) x11)); (let x15 : Int32 := if ¬ ((((S8 4 n) + (S8 4 (8 + n))) + (L_weights S8 x11)) ≤ (L_bears S8 x11 (L_twice S8 x11))) then 2 else (-1); (let S17 : LwS := lset S14 3 n ((S14 3 n) + ((8 * (x7 - 1)) + x15)); if ¬ ((((S8 4 n) + (S8 4 (8 + n))) + (L_weights S8 x11)) ≤ (L_bears S8 x11 (L_twice S8 x11))) then (let x19 : Int32 := if ((S17 1 x11.toNatClampNeg) - (S17 1 x11.toNatClampNeg) / 4 * 4) = 2 then 0 else (2 - (((S17 1 x11.toNatClampNeg) / 4) - ((S17 1 x11.toNatClampNeg) / 4) / 4 * 4)); (let S21 : LwS := lset S17 1 x11.toNatClampNeg ((S17 1 x11.toNatClampNeg) + ((4 * x19) - (16 * (((S17 1 x11.toNatClampNeg) / 16) - ((S17 1 x11.toNatClampNeg) / 16) / 4 * 4)))); S21)) else S17))))) else S8) else S8) → (fI G.2.2.1 A s.heap (jn w0 (lW G.2.2.2 la S10)) H locs) → (lv_has ls 12 [(8, .int x7), (7, .int (nI n)), (0, .ref (la 0)), (1, .ref (la 1)), (2, .ref (la 2)), (3, .ref (la 3)), (4, .ref (la 4)), (5, .ref (la 5)), (6, .ref (la 6))]) → W p G.1 e ({ frames := 2, cells := 0, slots := 0, locals := 57 }) s m args below meth c H locs 0 0 Q (F0 m 438 ls []) := by
            intro S10 H locs ls eS10 hI hl
            obtain ⟨x12, ex12⟩ : ∃ z : Int32, z = (nI n) + 1 := ⟨_, rfl⟩
            refine lv_iinc (v := x12) (lv' := [(7, .int x12), (8, .int x7), (0, .ref (la 0)), (1, .ref (la 1)), (2, .ref (la 2)), (3, .ref (la 3)), (4, .ref (la 4)), (5, .ref (la 5)), (6, .ref (la 6))]) hx hb dL_minute_438 hl (k := 1) rfl (by rw [ex12]; rfl) (by decide) rfl (fun ls hl => ?_)
            refine lv_goto (tgt := 29) hx hb dL_minute_441 (by decide) ?_
            have HE : L_minute_s S5 n = S10 := by subst ex12 eS10 eS8 ex7; exact rfl
            exact ih (n + 1) (by omega) x12 S10 H locs ls (by rw [ex12]; exact nI_1 n) (by show _ = L_minute_s (L_minute_f S2 n) n; rw [← eS5]; exact HE.symm) hI (lv_sub hl [0, 2, 3, 4, 5, 6, 7, 8] rfl)
          refine lv_icmp_ne (tgt := 438) hx hb dL_minute_238 (by decide) (fun c13 => ?_) (fun c13 => ?_)
          · exact hJ11 S8 _ _ _ (by exact (if_neg c13).symm) hI (lv_sub hl [0, 1, 2, 3, 4, 5, 6, 7, 8] rfl)
          · refine lv_aload_n hx hb dL_minute_241 rfl (lv_at hl 2 rfl) ?_
            refine lv_aload_n hx hb dL_minute_242 rfl (lv_at hl 3 rfl) ?_
            refine lv_aload_n hx hb dL_minute_243 rfl (lv_at hl 5 rfl) ?_
            refine lv_aload hx hb dL_minute_244 (lv_at hl 6 rfl) ?_
            refine lv_aload hx hb dL_minute_246 (lv_at hl 8 rfl) ?_
            refine lv_iload hx hb dL_minute_248 (lv_at hl 1 rfl) ?_
            refine cSv (rest := []) hx hb hml hts hown hK hE hI (qL_why G w0 la S8 (nI n) (vp_in_nI (Nat.lt_of_lt_of_le (show n < 8 by omega) (by decide)) (by decide)) ((L_why_pre hRl hIl (show n < nv by omega) c13).1) ((L_why_pre hRl hIl (show n < nv by omega) c13).2) hRl.g.2.2.2.2 hnv8) kw_116 ⟨Nat.le_of_ble_eq_true rfl, Nat.le_of_ble_eq_true rfl⟩ rfl rfl hl.1 rfl (Nat.le_of_ble_eq_true rfl) dL_minute_250 ⟨Nat.zero_le _, Nat.zero_le _⟩ (fun H locs hI => ?_)
            refine lv_if_ne (tgt := 438) hx hb dL_minute_253 (by decide) (fun c14 => ?_) (fun c14 => ?_)
            · exact hJ11 S8 _ _ _ (by exact ((if_pos c13).trans (if_neg c14)).symm) hI (lv_sub hl [0, 1, 2, 3, 4, 5, 6, 7, 8] rfl)
            · refine lv_aload_n hx hb dL_minute_256 rfl (lv_at hl 5 rfl) ?_
              refine lv_iload hx hb dL_minute_257 (lv_at hl 1 rfl) ?_
              refine gA (k := 3) (n := 8) (q := n) hx hb hK hI (by decide) rfl (vp_in_nI (Nat.lt_of_lt_of_le (show n < 8 by omega) (by decide)) (by decide)) (nI_clamp (Nat.lt_of_lt_of_le (show n < 8 by omega) (by decide))) dL_minute_259 ?_
              refine lv_bipush (v := 8) hx hb dL_minute_260 (by decide) ?_
              refine lv_idiv hx hb dL_minute_262 (by decide) ?_
              refine lv_bipush (v := 16) hx hb dL_minute_263 (by decide) ?_
              refine lv_irem hx hb dL_minute_265 (by decide) ?_
              refine lv_iconst (v := 1) hx hb dL_minute_266 (by decide) ?_
              refine lv_isub hx hb dL_minute_267 ?_
              refine lv_iload hx hb dL_minute_268 (lv_at hl 0 rfl) ?_
              refine lv_iadd hx hb dL_minute_270 ?_
              obtain ⟨x15, ex15⟩ : ∃ z : Int32, z = ((((S8 3 n) / 8) - ((S8 3 n) / 8) / 16 * 16) - 1) + x7 := ⟨_, rfl⟩
              rw [← ex15]
              refine lv_istore (lv' := [(9, .int x15), (8, .int x7), (7, .int (nI n)), (0, .ref (la 0)), (1, .ref (la 1)), (2, .ref (la 2)), (3, .ref (la 3)), (4, .ref (la 4)), (5, .ref (la 5)), (6, .ref (la 6))]) hx hb dL_minute_271 hl (by decide) rfl (fun ls hl => ?_)
              have hnx := L_pc_in hRl hIl (show n < nv by omega) c13 hwl ex15
              refine lv_aload hx hb dL_minute_273 (lv_at hl 7 rfl) ?_
              refine lv_iload hx hb dL_minute_275 (lv_at hl 2 rfl) ?_
              refine gA (k := 4) (n := 40) (q := n) hx hb hK hI (by decide) rfl (vp_in_nI (Nat.lt_of_lt_of_le (show n < 8 by omega) (by decide)) (by decide)) (nI_clamp (Nat.lt_of_lt_of_le (show n < 8 by omega) (by decide))) dL_minute_277 ?_
              refine lv_aload hx hb dL_minute_278 (lv_at hl 7 rfl) ?_
              refine lv_bipush (v := 8) hx hb dL_minute_280 (by decide) ?_
              refine lv_iload hx hb dL_minute_282 (lv_at hl 2 rfl) ?_
              refine lv_iadd hx hb dL_minute_284 ?_
              refine gA (k := 4) (n := 40) (q := 8 + n) hx hb hK hI (by decide) rfl (vo_n 8 rfl (show n < 8 by omega) (by decide) (by decide)) (vo_nc 8 rfl (show n < 8 by omega) (by decide)) dL_minute_285 ?_
              refine lv_iadd hx hb dL_minute_286 ?_
              refine lv_aload_n hx hb dL_minute_287 rfl (lv_at hl 6 rfl) ?_
              refine lv_aload hx hb dL_minute_288 (lv_at hl 7 rfl) ?_
              refine lv_aload hx hb dL_minute_290 (lv_at hl 9 rfl) ?_
              refine lv_iload hx hb dL_minute_292 (lv_at hl 0 rfl) ?_
              refine cSv (rest := [.int ((S8 4 n) + (S8 4 (8 + n)))]) hx hb hml hts hown hK hE hI (qL_weights G w0 la S8 x15 hRl.g.2.2.2.2 hnv8) kw_100 ⟨Nat.le_of_ble_eq_true rfl, Nat.le_of_ble_eq_true rfl⟩ rfl rfl hl.1 rfl (Nat.le_of_ble_eq_true rfl) dL_minute_294 ⟨Nat.zero_le _, Nat.zero_le _⟩ (fun H locs hI => ?_)
              refine lv_iadd hx hb dL_minute_297 ?_
              refine lv_aload_n hx hb dL_minute_298 rfl (lv_at hl 3 rfl) ?_
              refine lv_aload_n hx hb dL_minute_299 rfl (lv_at hl 4 rfl) ?_
              refine lv_iload hx hb dL_minute_300 (lv_at hl 0 rfl) ?_
              refine lv_aload_n hx hb dL_minute_302 rfl (lv_at hl 3 rfl) ?_
              refine lv_iload hx hb dL_minute_303 (lv_at hl 0 rfl) ?_
              refine cSv (rest := [.int x15, .ref (la 1), .ref (la 0), .int (((S8 4 n) + (S8 4 (8 + n))) + (L_weights S8 x15))]) hx hb hml hts hown hK hE hI (qL_twice G w0 la S8 x15 (vp_up (L_pc_8 hRl hnx) (by decide))) kw_119 ⟨Nat.le_of_ble_eq_true rfl, Nat.le_of_ble_eq_true rfl⟩ rfl rfl hl.1 rfl (Nat.le_of_ble_eq_true rfl) dL_minute_305 ⟨Nat.zero_le _, Nat.zero_le _⟩ (fun H locs hI => ?_)
              refine cSv (rest := [.int (((S8 4 n) + (S8 4 (8 + n))) + (L_weights S8 x15))]) hx hb hml hts hown hK hE hI (qL_bears G w0 la S8 x15 (L_twice S8 x15) (vp_up (L_pc_8 hRl hnx) (by decide))) kw_104 ⟨Nat.le_of_ble_eq_true rfl, Nat.le_of_ble_eq_true rfl⟩ rfl rfl hl.1 rfl (Nat.le_of_ble_eq_true rfl) dL_minute_308 ⟨Nat.zero_le _, Nat.zero_le _⟩ (fun H locs hI => ?_)
              have hJ16 : W p G.1 e ({ frames := 2, cells := 0, slots := 0, locals := 57 }) s m args below meth c H locs 0 0 Q (F0 m 319 ls [.int (bI (¬ ((((S8 4 n) + (S8 4 (8 + n))) + (L_weights S8 x15)) ≤ (L_bears S8 x15 (L_twice S8 x15)))))]) := by
                refine lv_istore (lv' := [(10, .int (bI (¬ ((((S8 4 n) + (S8 4 (8 + n))) + (L_weights S8 x15)) ≤ (L_bears S8 x15 (L_twice S8 x15)))))), (9, .int x15), (8, .int x7), (7, .int (nI n)), (0, .ref (la 0)), (1, .ref (la 1)), (2, .ref (la 2)), (3, .ref (la 3)), (4, .ref (la 4)), (5, .ref (la 5)), (6, .ref (la 6))]) hx hb dL_minute_319 hl (by decide) rfl (fun ls hl => ?_)
                refine lv_aload_n hx hb dL_minute_321 rfl (lv_at hl 4 rfl) ?_
                refine lv_bipush (v := 40) hx hb dL_minute_322 (by decide) ?_
                refine lv_bipush (v := 8) hx hb dL_minute_324 (by decide) ?_
                refine lv_iload hx hb dL_minute_326 (lv_at hl 2 rfl) ?_
                refine lv_imul hx hb dL_minute_328 ?_
                refine lv_iadd hx hb dL_minute_329 ?_
                refine lv_iload hx hb dL_minute_330 (lv_at hl 1 rfl) ?_
                refine lv_iadd hx hb dL_minute_332 ?_
                refine lv_aload hx hb dL_minute_333 (lv_at hl 10 rfl) ?_
                refine lv_iconst (v := 0) hx hb dL_minute_335 (by decide) ?_
                refine gA (k := 6) (n := 5) (q := 0) hx hb hK hI (by decide) rfl (by unfold vp_in; decide) (by decide) dL_minute_336 ?_
                obtain ⟨S17, eS17⟩ : ∃ z : LwS, z = lset S8 0 (((40 + (8 * x7)) + x15).toNatClampNeg) (S8 6 0) := ⟨_, rfl⟩
                refine sA (k := 0) (n := 57) (q := ((40 + (8 * x7)) + x15).toNatClampNeg) hx hb hK hI (by decide) rfl (L_pc_57 hRl (show n < nv by omega) hwl hnx) rfl eS17 dL_minute_337 (fun H locs hI => ?_)
                refine lv_aload hx hb dL_minute_338 (lv_at hl 8 rfl) ?_
                refine lv_bipush (v := 32) hx hb dL_minute_340 (by decide) ?_
                refine lv_iload hx hb dL_minute_342 (lv_at hl 3 rfl) ?_
                refine lv_iadd hx hb dL_minute_344 ?_
                refine lv_aload hx hb dL_minute_345 (lv_at hl 10 rfl) ?_
                refine lv_iconst (v := 0) hx hb dL_minute_347 (by decide) ?_
                refine gA (k := 6) (n := 5) (q := 0) hx hb hK hI (by decide) rfl (by unfold vp_in; decide) (by decide) dL_minute_348 ?_
                refine lv_aload_n hx hb dL_minute_349 rfl (lv_at hl 5 rfl) ?_
                refine lv_aload_n hx hb dL_minute_350 rfl (lv_at hl 6 rfl) ?_
                refine lv_aload hx hb dL_minute_351 (lv_at hl 8 rfl) ?_
                refine lv_iload hx hb dL_minute_353 (lv_at hl 3 rfl) ?_
                refine lv_iload hx hb dL_minute_355 (lv_at hl 1 rfl) ?_
                refine cSv (rest := [.int (S17 6 0), .int (32 + (nI n)), .ref (la 4)]) hx hb hml hts hown hK hE hI (qL_minutes G w0 la S17 (nI n) x15 (vp_in_nI (Nat.lt_of_lt_of_le (show n < 8 by omega) (by decide)) (by decide)) (vp_up (L_pc_8 hRl hnx) (by decide)) ((L_min_pre hRl hIl (show n < nv by omega) hnx eS17).1) ((L_min_pre hRl hIl (show n < nv by omega) hnx eS17).2.1) ((L_min_pre hRl hIl (show n < nv by omega) hnx eS17).2.2)) kw_123 ⟨Nat.le_of_ble_eq_true rfl, Nat.le_of_ble_eq_true rfl⟩ rfl rfl hl.1 rfl (Nat.le_of_ble_eq_true rfl) dL_minute_357 ⟨Nat.zero_le _, Nat.zero_le _⟩ (fun H locs hI => ?_)
                refine lv_iadd hx hb dL_minute_360 ?_
                obtain ⟨S18, eS18⟩ : ∃ z : LwS, z = lset S17 4 (32 + n) ((S17 6 0) + (L_minutes S17 (nI n) x15)) := ⟨_, rfl⟩
                refine sA (k := 4) (n := 40) (q := 32 + n) hx hb hK hI (by decide) rfl (vo_n 32 rfl (show n < 8 by omega) (by decide) (by decide)) (vo_nc 32 rfl (show n < 8 by omega) (by decide)) eS18 dL_minute_361 (fun H locs hI => ?_)
                refine lv_aload_n hx hb dL_minute_362 rfl (lv_at hl 7 rfl) ?_
                refine lv_iload hx hb dL_minute_363 (lv_at hl 3 rfl) ?_
                refine lv_dup2_11 hx hb dL_minute_365 rfl rfl ?_
                refine gA (k := 3) (n := 8) (q := n) hx hb hK hI (by decide) rfl (vp_in_nI (Nat.lt_of_lt_of_le (show n < 8 by omega) (by decide)) (by decide)) (nI_clamp (Nat.lt_of_lt_of_le (show n < 8 by omega) (by decide))) dL_minute_366 ?_
                refine lv_bipush (v := 8) hx hb dL_minute_367 (by decide) ?_
                refine lv_iload hx hb dL_minute_369 (lv_at hl 2 rfl) ?_
                refine lv_iconst (v := 1) hx hb dL_minute_371 (by decide) ?_
                refine lv_isub hx hb dL_minute_372 ?_
                refine lv_imul hx hb dL_minute_373 ?_
                refine lv_iload hx hb dL_minute_374 (lv_at hl 0 rfl) ?_
                have hJ20 : ∀ (x19 : Int32), (x19 = if ¬ ((((S8 4 n) + (S8 4 (8 + n))) + (L_weights S8 x15)) ≤ (L_bears S8 x15 (L_twice S8 x15))) then 2 else (-1)) → W p G.1 e ({ frames := 2, cells := 0, slots := 0, locals := 57 }) s m args below meth c H locs 0 0 Q (F0 m 384 ls [.int x19, .int (8 * (x7 - 1)), .int (S18 3 n), .int (nI n), .ref (la 3)]) := by
                  intro x19 ex19
                  refine lv_iadd hx hb dL_minute_384 ?_
                  refine lv_iadd hx hb dL_minute_385 ?_
                  obtain ⟨S21, eS21⟩ : ∃ z : LwS, z = lset S18 3 n ((S18 3 n) + ((8 * (x7 - 1)) + x19)) := ⟨_, rfl⟩
                  refine sA (k := 3) (n := 8) (q := n) hx hb hK hI (by decide) rfl (vp_in_nI (Nat.lt_of_lt_of_le (show n < 8 by omega) (by decide)) (by decide)) (nI_clamp (Nat.lt_of_lt_of_le (show n < 8 by omega) (by decide))) eS21 dL_minute_386 (fun H locs hI => ?_)
                  refine lv_iload hx hb dL_minute_387 (lv_at hl 0 rfl) ?_
                  refine xb_eq (tgt := 438) hx hb dL_minute_389 (by decide) (fun c22 => ?_) (fun c22 => ?_)
                  · exact hJ11 S21 _ _ _ (by subst eS21 ex19 eS18 eS17 ex15; exact ((if_pos c13).trans ((if_pos c14).trans (if_neg c22))).symm) hI (lv_sub hl [2, 3, 4, 5, 6, 7, 8, 9, 10] rfl)
                  · refine lv_aload_n hx hb dL_minute_392 rfl (lv_at hl 5 rfl) ?_
                    refine lv_iload hx hb dL_minute_393 (lv_at hl 1 rfl) ?_
                    refine lv_dup2_11 hx hb dL_minute_395 rfl rfl ?_
                    refine gA (k := 1) (n := 9) (q := x15.toNatClampNeg) hx hb hK hI (by decide) rfl (vp_up (L_pc_8 hRl hnx) (by decide)) rfl dL_minute_396 ?_
                    refine lv_iconst (v := 4) hx hb dL_minute_397 (by decide) ?_
                    refine lv_aload_n hx hb dL_minute_398 rfl (lv_at hl 5 rfl) ?_
                    refine lv_iload hx hb dL_minute_399 (lv_at hl 1 rfl) ?_
                    refine gA (k := 1) (n := 9) (q := x15.toNatClampNeg) hx hb hK hI (by decide) rfl (vp_up (L_pc_8 hRl hnx) (by decide)) rfl dL_minute_401 ?_
                    refine lv_iconst (v := 4) hx hb dL_minute_402 (by decide) ?_
                    refine lv_irem hx hb dL_minute_403 (by decide) ?_
                    refine lv_iconst (v := 2) hx hb dL_minute_404 (by decide) ?_
                    have hJ24 : ∀ (x23 : Int32), (x23 = if ((S21 1 x15.toNatClampNeg) - (S21 1 x15.toNatClampNeg) / 4 * 4) = 2 then 0 else (2 - (((S21 1 x15.toNatClampNeg) / 4) - ((S21 1 x15.toNatClampNeg) / 4) / 4 * 4))) → W p G.1 e ({ frames := 2, cells := 0, slots := 0, locals := 57 }) s m args below meth c H locs 0 0 Q (F0 m 422 ls [.int x23, .int 4, .int (S21 1 x15.toNatClampNeg), .int x15, .ref (la 1)]) := by
                      intro x23 ex23
                      refine lv_imul hx hb dL_minute_422 ?_
                      refine lv_bipush (v := 16) hx hb dL_minute_423 (by decide) ?_
                      refine lv_aload_n hx hb dL_minute_425 rfl (lv_at hl 5 rfl) ?_
                      refine lv_iload hx hb dL_minute_426 (lv_at hl 1 rfl) ?_
                      refine gA (k := 1) (n := 9) (q := x15.toNatClampNeg) hx hb hK hI (by decide) rfl (vp_up (L_pc_8 hRl hnx) (by decide)) rfl dL_minute_428 ?_
                      refine lv_bipush (v := 16) hx hb dL_minute_429 (by decide) ?_
                      refine lv_idiv hx hb dL_minute_431 (by decide) ?_
                      refine lv_iconst (v := 4) hx hb dL_minute_432 (by decide) ?_
                      refine lv_irem hx hb dL_minute_433 (by decide) ?_
                      refine lv_imul hx hb dL_minute_434 ?_
                      refine lv_isub hx hb dL_minute_435 ?_
                      refine lv_iadd hx hb dL_minute_436 ?_
                      obtain ⟨S25, eS25⟩ : ∃ z : LwS, z = lset S21 1 x15.toNatClampNeg ((S21 1 x15.toNatClampNeg) + ((4 * x23) - (16 * (((S21 1 x15.toNatClampNeg) / 16) - ((S21 1 x15.toNatClampNeg) / 16) / 4 * 4)))) := ⟨_, rfl⟩
                      refine sA (k := 1) (n := 9) (q := x15.toNatClampNeg) hx hb hK hI (by decide) rfl (vp_up (L_pc_8 hRl hnx) (by decide)) rfl eS25 dL_minute_437 (fun H locs hI => ?_)
                      exact hJ11 S25 _ _ _ (by subst eS25 ex23 eS21 ex19 eS18 eS17 ex15; exact ((if_pos c13).trans ((if_pos c14).trans (if_pos c22))).symm) hI (lv_sub hl [2, 3, 4, 5, 6, 7, 8, 9, 10] rfl)
                    refine lv_icmp_ne (tgt := 412) hx hb dL_minute_405 (by decide) (fun c26 => ?_) (fun c26 => ?_)
                    · refine lv_iconst (v := 2) hx hb dL_minute_412 (by decide) ?_
                      refine lv_aload_n hx hb dL_minute_413 rfl (lv_at hl 5 rfl) ?_
                      refine lv_iload hx hb dL_minute_414 (lv_at hl 1 rfl) ?_
                      refine gA (k := 1) (n := 9) (q := x15.toNatClampNeg) hx hb hK hI (by decide) rfl (vp_up (L_pc_8 hRl hnx) (by decide)) rfl dL_minute_416 ?_
                      refine lv_iconst (v := 4) hx hb dL_minute_417 (by decide) ?_
                      refine lv_idiv hx hb dL_minute_418 (by decide) ?_
                      refine lv_iconst (v := 4) hx hb dL_minute_419 (by decide) ?_
                      refine lv_irem hx hb dL_minute_420 (by decide) ?_
                      refine lv_isub hx hb dL_minute_421 ?_
                      exact hJ24 (2 - (((S21 1 x15.toNatClampNeg) / 4) - ((S21 1 x15.toNatClampNeg) / 4) / 4 * 4)) (by exact (if_neg c26).symm)
                    · refine lv_iconst (v := 0) hx hb dL_minute_408 (by decide) ?_
                      refine lv_goto (tgt := 422) hx hb dL_minute_409 (by decide) ?_
                      exact hJ24 0 (by exact (if_pos c26).symm)
                refine xb_eq (tgt := 383) hx hb dL_minute_376 (by decide) (fun c27 => ?_) (fun c27 => ?_)
                · refine lv_iconst (v := (-1)) hx hb dL_minute_383 (by decide) ?_
                  exact hJ20 (-1) (by exact (if_neg c27).symm)
                · refine lv_iconst (v := 2) hx hb dL_minute_379 (by decide) ?_
                  refine lv_goto (tgt := 384) hx hb dL_minute_380 (by decide) ?_
                  exact hJ20 2 (by exact (if_pos c27).symm)
              refine lv_icmp_le (tgt := 318) hx hb dL_minute_311 (by decide) (fun c28 => ?_) (fun c28 => ?_)
              · refine lv_iconst (v := 0) hx hb dL_minute_318 (by decide) ?_
                have eb29 : (0 : Int32) = bI (¬ ((((S8 4 n) + (S8 4 (8 + n))) + (L_weights S8 x15)) ≤ (L_bears S8 x15 (L_twice S8 x15)))) := (bI_f (fun k => k c28)).symm
                rw [eb29]
                exact hJ16
              · refine lv_iconst (v := 1) hx hb dL_minute_314 (by decide) ?_
                refine lv_goto (tgt := 319) hx hb dL_minute_315 (by decide) ?_
                have eb30 : (1 : Int32) = bI (¬ ((((S8 4 n) + (S8 4 (8 + n))) + (L_weights S8 x15)) ≤ (L_bears S8 x15 (L_twice S8 x15)))) := (bI_t c28).symm
                rw [eb30]
                exact hJ16
        refine lv_icmp_ne (tgt := 230) hx hb dL_minute_58 (by decide) (fun c31 => ?_) (fun c31 => ?_)
        · exact hJ9 S5 _ _ _ (by exact (if_neg c31).symm) hI (lv_sub hl [0, 1, 2, 3, 4, 5, 6, 7, 8] rfl)
        · refine lv_aload hx hb dL_minute_61 (lv_at hl 6 rfl) ?_
          refine lv_bipush (v := 32) hx hb dL_minute_63 (by decide) ?_
          refine lv_iload hx hb dL_minute_65 (lv_at hl 1 rfl) ?_
          refine lv_iadd hx hb dL_minute_67 ?_
          refine gA (k := 4) (n := 40) (q := 32 + n) hx hb hK hI (by decide) rfl (vo_n 32 rfl (show n < 8 by omega) (by decide) (by decide)) (vo_nc 32 rfl (show n < 8 by omega) (by decide)) dL_minute_68 ?_
          refine lv_aload hx hb dL_minute_69 (lv_at hl 8 rfl) ?_
          refine lv_iconst (v := 0) hx hb dL_minute_71 (by decide) ?_
          refine gA (k := 6) (n := 5) (q := 0) hx hb hK hI (by decide) rfl (by unfold vp_in; decide) (by decide) dL_minute_72 ?_
          refine lv_icmp_gt (tgt := 230) hx hb dL_minute_73 (by decide) (fun c32 => ?_) (fun c32 => ?_)
          · exact hJ9 S5 _ _ _ (by exact ((if_pos c31).trans (if_pos c32)).symm) hI (lv_sub hl [0, 1, 2, 3, 4, 5, 6, 7, 8] rfl)
          · refine lv_aload_n hx hb dL_minute_76 rfl (lv_at hl 5 rfl) ?_
            refine lv_iload hx hb dL_minute_77 (lv_at hl 1 rfl) ?_
            refine gA (k := 3) (n := 8) (q := n) hx hb hK hI (by decide) rfl (vp_in_nI (Nat.lt_of_lt_of_le (show n < 8 by omega) (by decide)) (by decide)) (nI_clamp (Nat.lt_of_lt_of_le (show n < 8 by omega) (by decide))) dL_minute_79 ?_
            refine lv_bipush (v := 8) hx hb dL_minute_80 (by decide) ?_
            refine lv_idiv hx hb dL_minute_82 (by decide) ?_
            refine lv_bipush (v := 16) hx hb dL_minute_83 (by decide) ?_
            refine lv_irem hx hb dL_minute_85 (by decide) ?_
            obtain ⟨x33, ex33⟩ : ∃ z : Int32, z = ((S5 3 n) / 8) - ((S5 3 n) / 8) / 16 * 16 := ⟨_, rfl⟩
            rw [← ex33]
            refine lv_istore (lv' := [(9, .int x33), (8, .int x7), (7, .int (nI n)), (0, .ref (la 0)), (1, .ref (la 1)), (2, .ref (la 2)), (3, .ref (la 3)), (4, .ref (la 4)), (5, .ref (la 5)), (6, .ref (la 6))]) hx hb dL_minute_86 hl (by decide) rfl (fun ls hl => ?_)
            refine lv_aload hx hb dL_minute_88 (lv_at hl 7 rfl) ?_
            refine lv_iload hx hb dL_minute_90 (lv_at hl 2 rfl) ?_
            refine gA (k := 4) (n := 40) (q := n) hx hb hK hI (by decide) rfl (vp_in_nI (Nat.lt_of_lt_of_le (show n < 8 by omega) (by decide)) (by decide)) (nI_clamp (Nat.lt_of_lt_of_le (show n < 8 by omega) (by decide))) dL_minute_92 ?_
            refine lv_aload hx hb dL_minute_93 (lv_at hl 7 rfl) ?_
            refine lv_bipush (v := 8) hx hb dL_minute_95 (by decide) ?_
            refine lv_iload hx hb dL_minute_97 (lv_at hl 2 rfl) ?_
            refine lv_iadd hx hb dL_minute_99 ?_
            refine gA (k := 4) (n := 40) (q := 8 + n) hx hb hK hI (by decide) rfl (vo_n 8 rfl (show n < 8 by omega) (by decide) (by decide)) (vo_nc 8 rfl (show n < 8 by omega) (by decide)) dL_minute_100 ?_
            refine lv_iadd hx hb dL_minute_101 ?_
            refine lv_sipush (v := 20000) hx hb dL_minute_102 (by decide) ?_
            refine lv_idiv hx hb dL_minute_105 (by decide) ?_
            obtain ⟨x34, ex34⟩ : ∃ z : Int32, z = ((S5 4 n) + (S5 4 (8 + n))) / 20000 := ⟨_, rfl⟩
            rw [← ex34]
            refine lv_istore (lv' := [(10, .int x34), (9, .int x33), (8, .int x7), (7, .int (nI n)), (0, .ref (la 0)), (1, .ref (la 1)), (2, .ref (la 2)), (3, .ref (la 3)), (4, .ref (la 4)), (5, .ref (la 5)), (6, .ref (la 6))]) hx hb dL_minute_106 hl (by decide) rfl (fun ls hl => ?_)
            refine lv_aload_n hx hb dL_minute_108 rfl (lv_at hl 4 rfl) ?_
            refine lv_iload hx hb dL_minute_109 (lv_at hl 1 rfl) ?_
            refine lv_dup2_11 hx hb dL_minute_111 rfl rfl ?_
            refine gA (k := 0) (n := 57) (q := x33.toNatClampNeg) hx hb hK hI (by decide) rfl (vp_up (by rw [ex33]; exact L_at_in hRn hIn (by omega) c31) (by decide)) rfl dL_minute_112 ?_
            refine lv_aload_n hx hb dL_minute_113 rfl (lv_at hl 5 rfl) ?_
            refine lv_iload hx hb dL_minute_114 (lv_at hl 1 rfl) ?_
            refine gA (k := 1) (n := 9) (q := x33.toNatClampNeg) hx hb hK hI (by decide) rfl (vp_up (by rw [ex33]; exact L_at_in hRn hIn (by omega) c31) (by decide)) rfl dL_minute_116 ?_
            refine lv_iconst (v := 4) hx hb dL_minute_117 (by decide) ?_
            refine lv_irem hx hb dL_minute_118 (by decide) ?_
            refine lv_iconst (v := 2) hx hb dL_minute_119 (by decide) ?_
            have hJ36 : ∀ (x35 : Int32), (x35 = if ((S5 1 x33.toNatClampNeg) - (S5 1 x33.toNatClampNeg) / 4 * 4) = 2 then 0 else (if x34 ≤ (S5 0 x33.toNatClampNeg) then x34 else (S5 0 x33.toNatClampNeg))) → W p G.1 e ({ frames := 2, cells := 0, slots := 0, locals := 57 }) s m args below meth c H locs 0 0 Q (F0 m 145 ls [.int x35, .int (S5 0 x33.toNatClampNeg), .int x33, .ref (la 0)]) := by
              intro x35 ex35
              refine lv_isub hx hb dL_minute_145 ?_
              obtain ⟨S37, eS37⟩ : ∃ z : LwS, z = lset S5 0 x33.toNatClampNeg ((S5 0 x33.toNatClampNeg) - x35) := ⟨_, rfl⟩
              refine sA (k := 0) (n := 57) (q := x33.toNatClampNeg) hx hb hK hI (by decide) rfl (vp_up (by rw [ex33]; exact L_at_in hRn hIn (by omega) c31) (by decide)) rfl eS37 dL_minute_146 (fun H locs hI => ?_)
              refine lv_aload_n hx hb dL_minute_147 rfl (lv_at hl 7 rfl) ?_
              refine lv_iload hx hb dL_minute_148 (lv_at hl 3 rfl) ?_
              refine lv_dup2_11 hx hb dL_minute_150 rfl rfl ?_
              refine gA (k := 3) (n := 8) (q := n) hx hb hK hI (by decide) rfl (vp_in_nI (Nat.lt_of_lt_of_le (show n < 8 by omega) (by decide)) (by decide)) (nI_clamp (Nat.lt_of_lt_of_le (show n < 8 by omega) (by decide))) dL_minute_151 ?_
              refine lv_iconst (v := 1) hx hb dL_minute_152 (by decide) ?_
              refine lv_bipush (v := 8) hx hb dL_minute_153 (by decide) ?_
              refine lv_iload hx hb dL_minute_155 (lv_at hl 2 rfl) ?_
              refine lv_imul hx hb dL_minute_157 ?_
              refine lv_iadd hx hb dL_minute_158 ?_
              refine lv_iadd hx hb dL_minute_159 ?_
              obtain ⟨S38, eS38⟩ : ∃ z : LwS, z = lset S37 3 n ((S37 3 n) + (1 + (8 * x7))) := ⟨_, rfl⟩
              refine sA (k := 3) (n := 8) (q := n) hx hb hK hI (by decide) rfl (vp_in_nI (Nat.lt_of_lt_of_le (show n < 8 by omega) (by decide)) (by decide)) (nI_clamp (Nat.lt_of_lt_of_le (show n < 8 by omega) (by decide))) eS38 dL_minute_160 (fun H locs hI => ?_)
              refine lv_iload hx hb dL_minute_161 (lv_at hl 2 rfl) ?_
              refine lv_iconst (v := 1) hx hb dL_minute_163 (by decide) ?_
              have hJ39 : W p G.1 e ({ frames := 2, cells := 0, slots := 0, locals := 57 }) s m args below meth c H locs 0 0 Q (F0 m 183 ls [.int (bI ((x7 = 1) ∧ (x33 = ((S38 6 3) - 1))))]) := by
                refine lv_istore (lv' := [(11, .int (bI ((x7 = 1) ∧ (x33 = ((S38 6 3) - 1))))), (10, .int x34), (9, .int x33), (8, .int x7), (7, .int (nI n)), (0, .ref (la 0)), (1, .ref (la 1)), (2, .ref (la 2)), (3, .ref (la 3)), (4, .ref (la 4)), (5, .ref (la 5)), (6, .ref (la 6))]) hx hb dL_minute_183 hl (by decide) rfl (fun ls hl => ?_)
                refine lv_iload hx hb dL_minute_185 (lv_at hl 0 rfl) ?_
                refine xb_ne (tgt := 200) hx hb dL_minute_187 (by decide) (fun c40 => ?_) (fun c40 => ?_)
                · refine lv_aload_n hx hb dL_minute_200 rfl (lv_at hl 8 rfl) ?_
                  refine lv_iload hx hb dL_minute_201 (lv_at hl 4 rfl) ?_
                  refine lv_dup2_11 hx hb dL_minute_203 rfl rfl ?_
                  refine gA (k := 3) (n := 8) (q := n) hx hb hK hI (by decide) rfl (vp_in_nI (Nat.lt_of_lt_of_le (show n < 8 by omega) (by decide)) (by decide)) (nI_clamp (Nat.lt_of_lt_of_le (show n < 8 by omega) (by decide))) dL_minute_204 ?_
                  refine lv_iload hx hb dL_minute_205 (lv_at hl 0 rfl) ?_
                  have hJ42 : ∀ (x41 : Int32), (x41 = if (x7 = 1) ∧ (x33 = ((S38 6 3) - 1)) then 1 else (-2)) → W p G.1 e ({ frames := 2, cells := 0, slots := 0, locals := 57 }) s m args below meth c H locs 0 0 Q (F0 m 216 ls [.int x41, .int (S38 3 n), .int (nI n), .ref (la 3)]) := by
                    intro x41 ex41
                    refine lv_iadd hx hb dL_minute_216 ?_
                    obtain ⟨S43, eS43⟩ : ∃ z : LwS, z = lset S38 3 n ((S38 3 n) + x41) := ⟨_, rfl⟩
                    refine sA (k := 3) (n := 8) (q := n) hx hb hK hI (by decide) rfl (vp_in_nI (Nat.lt_of_lt_of_le (show n < 8 by omega) (by decide)) (by decide)) (nI_clamp (Nat.lt_of_lt_of_le (show n < 8 by omega) (by decide))) eS43 dL_minute_217 (fun H locs hI => ?_)
                    refine lv_aload_n hx hb dL_minute_218 rfl (lv_at hl 8 rfl) ?_
                    refine lv_aload hx hb dL_minute_219 (lv_at hl 9 rfl) ?_
                    refine lv_aload hx hb dL_minute_221 (lv_at hl 10 rfl) ?_
                    refine lv_iload hx hb dL_minute_223 (lv_at hl 4 rfl) ?_
                    refine lv_iload hx hb dL_minute_225 (lv_at hl 0 rfl) ?_
                    obtain ⟨S44, eS44⟩ : ∃ z : LwS, z = L_unloads S43 (nI n) (bI ((x7 = 1) ∧ (x33 = ((S38 6 3) - 1)))) := ⟨_, rfl⟩
                    refine cS0 (rest := []) hx hb hml hts hown hK hE hI (qL_unloads G w0 la S43 (nI n) (bI ((x7 = 1) ∧ (x33 = ((S38 6 3) - 1)))) (vp_in_nI (Nat.lt_of_lt_of_le (show n < 8 by omega) (by decide)) (by decide)) (L_gd hRn (by omega) c31 ex7 eS37 eS38 ex41 eS43)) kw_112 ⟨Nat.le_of_ble_eq_true rfl, Nat.le_of_ble_eq_true rfl⟩ rfl rfl hl.1 rfl (Nat.le_of_ble_eq_true rfl) dL_minute_227 ⟨Nat.zero_le _, Nat.zero_le _⟩ (fun H locs hI => ?_)
                    rw [← eS44] at hI
                    exact hJ9 S44 _ _ _ (by subst eS44 eS43 ex41 eS38 eS37 ex35 ex34 ex33; exact ((if_pos c31).trans ((if_neg c32).trans (if_pos c40))).symm) hI (lv_sub hl [3, 4, 5, 6, 7, 8, 9, 10, 11] rfl)
                  refine xb_eq (tgt := 214) hx hb dL_minute_207 (by decide) (fun c45 => ?_) (fun c45 => ?_)
                  · refine lv_bipush (v := -2) hx hb dL_minute_214 (by decide) ?_
                    exact hJ42 (-2) (by exact (if_neg c45).symm)
                  · refine lv_iconst (v := 1) hx hb dL_minute_210 (by decide) ?_
                    refine lv_goto (tgt := 216) hx hb dL_minute_211 (by decide) ?_
                    exact hJ42 1 (by exact (if_pos c45).symm)
                · refine lv_iload hx hb dL_minute_190 (lv_at hl 3 rfl) ?_
                  refine lv_if_ne (tgt := 230) hx hb dL_minute_192 (by decide) (fun c46 => ?_) (fun c46 => ?_)
                  · exact hJ9 S38 _ _ _ (by subst eS38 eS37 ex35 ex34 ex33; exact ((if_pos c31).trans ((if_neg c32).trans ((if_neg c40).trans (if_neg c46)))).symm) hI (lv_sub hl [3, 4, 5, 6, 7, 8, 9, 10, 11] rfl)
                  · refine lv_iload hx hb dL_minute_195 (lv_at hl 2 rfl) ?_
                    refine lv_if_ne (tgt := 230) hx hb dL_minute_197 (by decide) (fun c47 => ?_) (fun c47 => ?_)
                    · exact hJ9 S38 _ _ _ (by subst eS38 eS37 ex35 ex34 ex33; exact ((if_pos c31).trans ((if_neg c32).trans ((if_neg c40).trans ((if_pos c46).trans (if_neg c47))))).symm) hI (lv_sub hl [3, 4, 5, 6, 7, 8, 9, 10, 11] rfl)
                    · refine lv_aload_n hx hb dL_minute_200 rfl (lv_at hl 8 rfl) ?_
                      refine lv_iload hx hb dL_minute_201 (lv_at hl 4 rfl) ?_
                      refine lv_dup2_11 hx hb dL_minute_203 rfl rfl ?_
                      refine gA (k := 3) (n := 8) (q := n) hx hb hK hI (by decide) rfl (vp_in_nI (Nat.lt_of_lt_of_le (show n < 8 by omega) (by decide)) (by decide)) (nI_clamp (Nat.lt_of_lt_of_le (show n < 8 by omega) (by decide))) dL_minute_204 ?_
                      refine lv_iload hx hb dL_minute_205 (lv_at hl 0 rfl) ?_
                      have hJ49 : ∀ (x48 : Int32), (x48 = if (x7 = 1) ∧ (x33 = ((S38 6 3) - 1)) then 1 else (-2)) → W p G.1 e ({ frames := 2, cells := 0, slots := 0, locals := 57 }) s m args below meth c H locs 0 0 Q (F0 m 216 ls [.int x48, .int (S38 3 n), .int (nI n), .ref (la 3)]) := by
                        intro x48 ex48
                        refine lv_iadd hx hb dL_minute_216 ?_
                        obtain ⟨S50, eS50⟩ : ∃ z : LwS, z = lset S38 3 n ((S38 3 n) + x48) := ⟨_, rfl⟩
                        refine sA (k := 3) (n := 8) (q := n) hx hb hK hI (by decide) rfl (vp_in_nI (Nat.lt_of_lt_of_le (show n < 8 by omega) (by decide)) (by decide)) (nI_clamp (Nat.lt_of_lt_of_le (show n < 8 by omega) (by decide))) eS50 dL_minute_217 (fun H locs hI => ?_)
                        refine lv_aload_n hx hb dL_minute_218 rfl (lv_at hl 8 rfl) ?_
                        refine lv_aload hx hb dL_minute_219 (lv_at hl 9 rfl) ?_
                        refine lv_aload hx hb dL_minute_221 (lv_at hl 10 rfl) ?_
                        refine lv_iload hx hb dL_minute_223 (lv_at hl 4 rfl) ?_
                        refine lv_iload hx hb dL_minute_225 (lv_at hl 0 rfl) ?_
                        obtain ⟨S51, eS51⟩ : ∃ z : LwS, z = L_unloads S50 (nI n) (bI ((x7 = 1) ∧ (x33 = ((S38 6 3) - 1)))) := ⟨_, rfl⟩
                        refine cS0 (rest := []) hx hb hml hts hown hK hE hI (qL_unloads G w0 la S50 (nI n) (bI ((x7 = 1) ∧ (x33 = ((S38 6 3) - 1)))) (vp_in_nI (Nat.lt_of_lt_of_le (show n < 8 by omega) (by decide)) (by decide)) (L_gd hRn (by omega) c31 ex7 eS37 eS38 ex48 eS50)) kw_112 ⟨Nat.le_of_ble_eq_true rfl, Nat.le_of_ble_eq_true rfl⟩ rfl rfl hl.1 rfl (Nat.le_of_ble_eq_true rfl) dL_minute_227 ⟨Nat.zero_le _, Nat.zero_le _⟩ (fun H locs hI => ?_)
                        rw [← eS51] at hI
                        exact hJ9 S51 _ _ _ (by subst eS51 eS50 ex48 eS38 eS37 ex35 ex34 ex33; exact ((if_pos c31).trans ((if_neg c32).trans ((if_neg c40).trans ((if_pos c46).trans (if_pos c47))))).symm) hI (lv_sub hl [3, 4, 5, 6, 7, 8, 9, 10, 11] rfl)
                      refine xb_eq (tgt := 214) hx hb dL_minute_207 (by decide) (fun c52 => ?_) (fun c52 => ?_)
                      · refine lv_bipush (v := -2) hx hb dL_minute_214 (by decide) ?_
                        exact hJ49 (-2) (by exact (if_neg c52).symm)
                      · refine lv_iconst (v := 1) hx hb dL_minute_210 (by decide) ?_
                        refine lv_goto (tgt := 216) hx hb dL_minute_211 (by decide) ?_
                        exact hJ49 1 (by exact (if_pos c52).symm)
              refine lv_icmp_ne (tgt := 182) hx hb dL_minute_164 (by decide) (fun c53 => ?_) (fun c53 => ?_)
              · refine lv_iconst (v := 0) hx hb dL_minute_182 (by decide) ?_
                have eb54 : (0 : Int32) = bI ((x7 = 1) ∧ (x33 = ((S38 6 3) - 1))) := (bI_f (fun k => c53 k.1)).symm
                rw [eb54]
                exact hJ39
              · refine lv_iload hx hb dL_minute_167 (lv_at hl 1 rfl) ?_
                refine lv_aload hx hb dL_minute_169 (lv_at hl 10 rfl) ?_
                refine lv_iconst (v := 3) hx hb dL_minute_171 (by decide) ?_
                refine gA (k := 6) (n := 5) (q := 3) hx hb hK hI (by decide) rfl (by unfold vp_in; decide) (by decide) dL_minute_172 ?_
                refine lv_iconst (v := 1) hx hb dL_minute_173 (by decide) ?_
                refine lv_isub hx hb dL_minute_174 ?_
                refine lv_icmp_ne (tgt := 182) hx hb dL_minute_175 (by decide) (fun c55 => ?_) (fun c55 => ?_)
                · refine lv_iconst (v := 0) hx hb dL_minute_182 (by decide) ?_
                  have eb56 : (0 : Int32) = bI ((x7 = 1) ∧ (x33 = ((S38 6 3) - 1))) := (bI_f (fun k => c55 k.2)).symm
                  rw [eb56]
                  exact hJ39
                · refine lv_iconst (v := 1) hx hb dL_minute_178 (by decide) ?_
                  refine lv_goto (tgt := 183) hx hb dL_minute_179 (by decide) ?_
                  have eb57 : (1 : Int32) = bI ((x7 = 1) ∧ (x33 = ((S38 6 3) - 1))) := (bI_t ⟨c53, c55⟩).symm
                  rw [eb57]
                  exact hJ39
            refine lv_icmp_ne (tgt := 127) hx hb dL_minute_120 (by decide) (fun c58 => ?_) (fun c58 => ?_)
            · refine lv_aload_n hx hb dL_minute_127 rfl (lv_at hl 4 rfl) ?_
              refine lv_iload hx hb dL_minute_128 (lv_at hl 1 rfl) ?_
              refine gA (k := 0) (n := 57) (q := x33.toNatClampNeg) hx hb hK hI (by decide) rfl (vp_up (by rw [ex33]; exact L_at_in hRn hIn (by omega) c31) (by decide)) rfl dL_minute_130 ?_
              refine lv_iload hx hb dL_minute_131 (lv_at hl 0 rfl) ?_
              refine lv_icmp_ge (tgt := 143) hx hb dL_minute_133 (by decide) (fun c59 => ?_) (fun c59 => ?_)
              · refine lv_iload hx hb dL_minute_143 (lv_at hl 0 rfl) ?_
                exact hJ36 x34 (by exact ((if_neg c58).trans (if_pos c59)).symm)
              · refine lv_aload_n hx hb dL_minute_136 rfl (lv_at hl 4 rfl) ?_
                refine lv_iload hx hb dL_minute_137 (lv_at hl 1 rfl) ?_
                refine gA (k := 0) (n := 57) (q := x33.toNatClampNeg) hx hb hK hI (by decide) rfl (vp_up (by rw [ex33]; exact L_at_in hRn hIn (by omega) c31) (by decide)) rfl dL_minute_139 ?_
                refine lv_goto (tgt := 145) hx hb dL_minute_140 (by decide) ?_
                exact hJ36 (S5 0 x33.toNatClampNeg) (by exact ((if_neg c58).trans (if_neg c59)).symm)
            · refine lv_iconst (v := 0) hx hb dL_minute_123 (by decide) ?_
              refine lv_goto (tgt := 145) hx hb dL_minute_124 (by decide) ?_
              exact hJ36 0 (by exact (if_pos c58).symm)
    exact hL6 nv 0 (by omega) 0 S2 H locs ls nI_0.symm rfl hI (lv_sub hl [0, 1, 2, 3, 4, 5, 6, 7] rfl)
  refine lv_if_ne (tgt := 26) hx hb dL_minute_16 (by decide) (fun c60 => ?_) (fun c60 => ?_)
  · exact hJ3 S1 _ _ (by exact (if_neg c60).symm) hI
  · refine lv_aload_n hx hb dL_minute_19 rfl (lv_at hl 0 rfl) ?_
    refine lv_aload_n hx hb dL_minute_20 rfl (lv_at hl 1 rfl) ?_
    refine lv_aload hx hb dL_minute_21 (lv_at hl 6 rfl) ?_
    obtain ⟨S61, eS61⟩ : ∃ z : LwS, z = L_ends S1 := ⟨_, rfl⟩
    refine cS0 (rest := []) hx hb hml hts hown hK hE hI (qL_ends G w0 la S1 (by rw [eS1]; exact (L_tick hR hI0).1.g.2.2.2.1) hnp8 (fun k hk => by rw [eS1]; exact (L_ends_f_eq (L_tick hR hI0).1 (L_tick hR hI0).2 k hk).g.2.2.2.1) (fun k hk => by rw [eS1]; exact L_den_ne (L_ends_f_eq (L_tick hR hI0).1 (L_tick hR hI0).2 k (by omega)) (MI_ends_f (L_tick hR hI0).2 (by omega)) hk)) kw_108 ⟨Nat.le_of_ble_eq_true rfl, Nat.le_of_ble_eq_true rfl⟩ rfl rfl hl.1 rfl (Nat.le_of_ble_eq_true rfl) dL_minute_23 ⟨Nat.zero_le _, Nat.zero_le _⟩ (fun H locs hI => ?_)
    rw [← eS61] at hI
    exact hJ3 S61 _ _ (by subst eS61; exact (if_pos c60).symm) hI
