theorem sw_out4 {x : Int32} (h0 : ¬ x = 0) (h1 : ¬ x = 1) (h2 : ¬ x = 2) (h3 : ¬ x = 3) : x.toInt < 0 ∨ 3 < x.toInt := by
  rw [← Int32.toInt_inj] at h0 h1 h2 h3
  have e0 : (0 : Int32).toInt = 0 := by decide
  have e1 : (1 : Int32).toInt = 1 := by decide
  have e2 : (2 : Int32).toInt = 2 := by decide
  have e3 : (3 : Int32).toInt = 3 := by decide
  omega
theorem nG_in {Z : XZ} {S : XS} {x : Int32} (h : X_needGoods Z S x = none) : vp_in x 3 := by
  unfold X_needGoods at h
  split at h
  · cases h
  · rename_i h1
    split at h
    · rename_i h2
      exact lin3 h1 h2
    · cases h
theorem nR_in {Z : XZ} {S : XS} {x a b : Int32} (h : X_needRange Z S x a b = none) : ¬ x < a ∧ x ≤ b := by
  unfold X_needRange at h
  split at h
  · cases h
  · rename_i h1
    split at h
    · rename_i h2
      exact ⟨h1, h2⟩
    · cases h
theorem nR_nI {Z : XZ} {S : XS} {x : Int32} (h : X_needRange Z S x 1 3000 = none) : ∃ N : Nat, x = nI N ∧ N ≤ 3000 := by
  obtain ⟨h1, h2⟩ := nR_in h
  rw [Int32.lt_iff_toInt_lt, show (1 : Int32).toInt = 1 by decide] at h1
  rw [Int32.le_iff_toInt_le, show (3000 : Int32).toInt = 3000 by decide] at h2
  obtain ⟨n, e, -, h3⟩ := rng_nI (x := x) (a := 1) (b := 3000) ⟨by omega, by omega⟩
  exact ⟨n, e, h3⟩
theorem X_unload_5 {Z : XZ} {S : XS} {j i : Nat} : (X_unload Z S j).1 2 i = S.1 2 i := by
  unfold X_unload
  dsimp only
  (repeat' split) <;> first | rfl | exact xset_kk (by decide) | (rw [xset_kk (by decide), xset_kk (by decide)]; rfl) | (rw [xset_kk (by decide)]; rfl)
theorem X_stopAtEnd_5 {Z : XZ} {S : XS} {j i : Nat} : (X_stopAtEnd Z S j).1 2 i 5 = S.1 2 i 5 := by
  unfold X_stopAtEnd
  dsimp only
  (repeat' split) <;> first | rfl | (rw [X_unload_5]; exact xset_f (by decide))
def X_weather (Z : XZ) (S : XS) (uk : Int32) : Option String × Int32 × XS :=
  if X_needRange Z S uk (-20) 60 = none then
    let S2 := xset S 0 0 7 uk
    (none, S.1 0 0 7, S2)
  else
    (X_needRange Z S uk (-20) 60, 0, S)
set_option maxHeartbeats 4000000 in
set_option maxRecDepth 100000 in
theorem cX_weather (G : GX) (hst : G.1.stackTraces = false) (Z : XZ) (S : XS) (uk : Int32) : FX G yX3_weather cX3_weather 3 (some .int) ({ frames := 7, cells := 1, slots := 6, locals := 104 }) [.ref (Z.A 0 0), .int uk] (xW G.2.2.2 G.2.1 Z S) (pvx (X_weather Z S uk).1 (.int (X_weather Z S uk).2.1) (xW G.2.2.2 G.2.1 Z (X_weather Z S uk).2.2)) (px (X_weather Z S uk).1 (xW G.2.2.2 G.2.1 Z S)) := by
  refine FX.go (lv := [(0, .ref (Z.A 0 0)), (1, .int uk)]) (by decide) (Nat.le_of_ble_eq_true rfl) rfl (fun p e s m args below meth c A H locs ls Q hx hb hr hts hown hml hlocks hout hK hE hI hA hl hQ => ?_)
  have hown : s.vm.findClass RX3 = some m.cls := hown
  refine lv_iload_n hx hb dX3_weather_0 rfl (lv_at hl 1 rfl) ?_
  refine lv_bipush (v := -20) hx hb dX3_weather_1 (by decide) ?_
  refine lv_bipush (v := 60) hx hb dX3_weather_3 (by decide) ?_
  refine dxS0 (rest := []) hx hb hml hts hown hK hE hI (cX_needRange G hst Z S uk (-20) 60) kX3_42 ⟨Nat.le_of_ble_eq_true rfl, Nat.le_of_ble_eq_true rfl⟩ hl.1 rfl (Nat.le_of_ble_eq_true rfl) dX3_weather_5 ⟨Nat.le_of_ble_eq_true rfl, Nat.le_of_ble_eq_true rfl⟩ (fun E9 ce q9 H locs h9 hI g1 g2 g3 => ?_) (fun t1 H locs hI => ?_)
  · have n9 : ¬ (X_needRange Z S uk (-20) 60) = none := fun z => by rw [h9] at z; cases z
    have HE : X_weather Z S uk = (X_needRange Z S uk (-20) 60, 0, S) := by exact (if_neg n9)
    exact rx_thru hout hlocks hI hA hQ ⟨by rw [HE]; exact h9, rfl⟩ (Nat.le_of_ble_eq_true rfl) (Nat.le_of_ble_eq_true rfl) g1 g2 g3
  · refine lv_aload_n hx hb dX3_weather_8 rfl (lv_at hl 0 rfl) ?_
    refine gX3_36 (i := 0) hx hb hts hown hK hI (by decide) dX3_weather_9 ?_
    refine lv_istore_n (lv' := [(2, .int (S.1 0 0 7)), (0, .ref (Z.A 0 0)), (1, .int uk)]) hx hb dX3_weather_12 rfl hl (by decide) rfl (fun ls hl => ?_)
    refine lv_aload_n hx hb dX3_weather_13 rfl (lv_at hl 1 rfl) ?_
    refine lv_iload_n hx hb dX3_weather_14 rfl (lv_at hl 2 rfl) ?_
    obtain ⟨S2, eS2⟩ : ∃ z : XS, z = xset S 0 0 7 uk := ⟨_, rfl⟩
    refine pX3_36 (i := 0) hx hb hts hown hK hI (by decide) eS2 dX3_weather_15 (fun H locs hI => ?_)
    refine lv_iload_n hx hb dX3_weather_18 rfl (lv_at hl 0 rfl) ?_
    have HE : X_weather Z S uk = (none, S.1 0 0 7, S2) := by subst eS2; exact (if_pos t1)
    exact rx_i hx hb hr hlocks hI hA hQ ⟨by rw [HE], by rw [HE], by rw [HE]⟩ (Nat.le_of_ble_eq_true rfl) (Nat.le_of_ble_eq_true rfl) dX3_weather_19

def X_plough (Z : XZ) (S : XS) (up : Int32) : Option String × Int32 × XS :=
  if X_pieceNumbered Z S up = none then
    let S2 := xset S 1 up.toNatClampNeg 6 0
    (none, S.1 1 up.toNatClampNeg 6, S2)
  else
    (X_pieceNumbered Z S up, 0, S)
set_option maxHeartbeats 4000000 in
set_option maxRecDepth 100000 in
theorem cX_plough (G : GX) (hst : G.1.stackTraces = false) (Z : XZ) (S : XS) (up : Int32) (hWZ : WZ Z) : FX G yX3_plough cX3_plough 4 (some .int) ({ frames := 7, cells := 1, slots := 6, locals := 103 }) [.ref (Z.A 0 0), .int up] (xW G.2.2.2 G.2.1 Z S) (pvx (X_plough Z S up).1 (.int (X_plough Z S up).2.1) (xW G.2.2.2 G.2.1 Z (X_plough Z S up).2.2)) (px (X_plough Z S up).1 (xW G.2.2.2 G.2.1 Z S)) := by
  refine FX.go (lv := [(0, .ref (Z.A 0 0)), (1, .int up)]) (by decide) (Nat.le_of_ble_eq_true rfl) rfl (fun p e s m args below meth c A H locs ls Q hx hb hr hts hown hml hlocks hout hK hE hI hA hl hQ => ?_)
  have hown : s.vm.findClass RX3 = some m.cls := hown
  refine lv_aload_n hx hb dX3_plough_0 rfl (lv_at hl 0 rfl) ?_
  refine lv_iload_n hx hb dX3_plough_1 rfl (lv_at hl 1 rfl) ?_
  refine dxVv (rest := []) hx hb hml hts hown hK hE hI (cX_pieceNumbered G hst Z S up hWZ) kX3_78 ⟨Nat.le_of_ble_eq_true rfl, Nat.le_of_ble_eq_true rfl⟩ (kk := 0) (ii := 0) (xW0 (by decide)) rfl rfl hl.1 rfl (Nat.le_of_ble_eq_true rfl) dX3_plough_2 ⟨Nat.le_of_ble_eq_true rfl, Nat.le_of_ble_eq_true rfl⟩ (fun E9 ce q9 H locs h9 hI g1 g2 g3 => ?_) (fun t1 H locs hI => ?_)
  · have n9 : ¬ (X_pieceNumbered Z S up) = none := fun z => by rw [h9] at z; cases z
    have HE : X_plough Z S up = (X_pieceNumbered Z S up, 0, S) := by exact (if_neg n9)
    exact rx_thru hout hlocks hI hA hQ ⟨by rw [HE]; exact h9, rfl⟩ (Nat.le_of_ble_eq_true rfl) (Nat.le_of_ble_eq_true rfl) g1 g2 g3
  · refine lv_astore_n (lv' := [(2, .ref (Z.A 1 up.toNatClampNeg)), (0, .ref (Z.A 0 0)), (1, .int up)]) hx hb dX3_plough_5 rfl hl (by decide) rfl (fun ls hl => ?_)
    refine lv_aload_n hx hb dX3_plough_6 rfl (lv_at hl 0 rfl) ?_
    refine gX3_75 (i := up.toNatClampNeg) hx hb hts hown hK hI (pN_lt hWZ t1) dX3_plough_7 ?_
    refine lv_istore_n (lv' := [(3, .int (S.1 1 up.toNatClampNeg 6)), (2, .ref (Z.A 1 up.toNatClampNeg)), (0, .ref (Z.A 0 0)), (1, .int up)]) hx hb dX3_plough_10 rfl hl (by decide) rfl (fun ls hl => ?_)
    refine lv_aload_n hx hb dX3_plough_11 rfl (lv_at hl 1 rfl) ?_
    refine lv_iconst (v := 0) hx hb dX3_plough_12 (by decide) ?_
    obtain ⟨S2, eS2⟩ : ∃ z : XS, z = xset S 1 up.toNatClampNeg 6 0 := ⟨_, rfl⟩
    refine pX3_75 (i := up.toNatClampNeg) hx hb hts hown hK hI (pN_lt hWZ t1) eS2 dX3_plough_13 (fun H locs hI => ?_)
    refine lv_iload_n hx hb dX3_plough_16 rfl (lv_at hl 0 rfl) ?_
    have HE : X_plough Z S up = (none, S.1 1 up.toNatClampNeg 6, S2) := by subst eS2; exact (if_pos t1)
    exact rx_i hx hb hr hlocks hI hA hQ ⟨by rw [HE], by rw [HE], by rw [HE]⟩ (Nat.le_of_ble_eq_true rfl) (Nat.le_of_ble_eq_true rfl) dX3_plough_17

def X_flood (Z : XZ) (S : XS) (up : Int32) (uk : Int32) : Option String × Int32 × XS :=
  if X_pieceNumbered Z S up = none then
    if X_needRange Z S uk 1 100 = none then
      if X_isWaterPiece Z S up.toNatClampNeg then
        if X_hasIce Z S up.toNatClampNeg then
          if ((S.1 1 up.toNatClampNeg 5) + uk) ≤ 500 then
            let S6 := xset S 1 up.toNatClampNeg 6 0
            let S7 := xset S6 1 up.toNatClampNeg 5 ((S6.1 1 up.toNatClampNeg 5) + uk)
            (none, S7.1 1 up.toNatClampNeg 5, S7)
          else
            ((some EISE), 0, S)
        else
          ((some EISE), 0, S)
      else
        ((some EISE), 0, S)
    else
      (X_needRange Z S uk 1 100, 0, S)
  else
    (X_pieceNumbered Z S up, 0, S)
set_option maxHeartbeats 4000000 in
set_option maxRecDepth 100000 in
theorem cX_flood (G : GX) (hst : G.1.stackTraces = false) (Z : XZ) (S : XS) (up : Int32) (uk : Int32) (hWZ : WZ Z) : FX G yX3_flood cX3_flood 4 (some .int) ({ frames := 7, cells := 3, slots := 18, locals := 104 }) [.ref (Z.A 0 0), .int up, .int uk] (xW G.2.2.2 G.2.1 Z S) (pvx (X_flood Z S up uk).1 (.int (X_flood Z S up uk).2.1) (xW G.2.2.2 G.2.1 Z (X_flood Z S up uk).2.2)) (px (X_flood Z S up uk).1 (xW G.2.2.2 G.2.1 Z S)) := by
  refine FX.go (lv := [(0, .ref (Z.A 0 0)), (1, .int up), (2, .int uk)]) (by decide) (Nat.le_of_ble_eq_true rfl) rfl (fun p e s m args below meth c A H locs ls Q hx hb hr hts hown hml hlocks hout hK hE hI hA hl hQ => ?_)
  have hown : s.vm.findClass RX3 = some m.cls := hown
  refine lv_aload_n hx hb dX3_flood_0 rfl (lv_at hl 0 rfl) ?_
  refine lv_iload_n hx hb dX3_flood_1 rfl (lv_at hl 1 rfl) ?_
  refine dxVv (rest := []) hx hb hml hts hown hK hE hI (cX_pieceNumbered G hst Z S up hWZ) kX3_78 ⟨Nat.le_of_ble_eq_true rfl, Nat.le_of_ble_eq_true rfl⟩ (kk := 0) (ii := 0) (xW0 (by decide)) rfl rfl hl.1 rfl (Nat.le_of_ble_eq_true rfl) dX3_flood_2 ⟨Nat.le_of_ble_eq_true rfl, Nat.le_of_ble_eq_true rfl⟩ (fun E9 ce q9 H locs h9 hI g1 g2 g3 => ?_) (fun t1 H locs hI => ?_)
  · have n9 : ¬ (X_pieceNumbered Z S up) = none := fun z => by rw [h9] at z; cases z
    have HE : X_flood Z S up uk = (X_pieceNumbered Z S up, 0, S) := by exact (if_neg n9)
    exact rx_thru hout hlocks hI hA hQ ⟨by rw [HE]; exact h9, rfl⟩ (Nat.le_of_ble_eq_true rfl) (Nat.le_of_ble_eq_true rfl) g1 g2 g3
  · refine lv_astore_n (lv' := [(3, .ref (Z.A 1 up.toNatClampNeg)), (0, .ref (Z.A 0 0)), (1, .int up), (2, .int uk)]) hx hb dX3_flood_5 rfl hl (by decide) rfl (fun ls hl => ?_)
    refine lv_iload_n hx hb dX3_flood_6 rfl (lv_at hl 3 rfl) ?_
    refine lv_iconst (v := 1) hx hb dX3_flood_7 (by decide) ?_
    refine lv_bipush (v := 100) hx hb dX3_flood_8 (by decide) ?_
    refine dxS0 (rest := []) hx hb hml hts hown hK hE hI (cX_needRange G hst Z S uk 1 100) kX3_42 ⟨Nat.le_of_ble_eq_true rfl, Nat.le_of_ble_eq_true rfl⟩ hl.1 rfl (Nat.le_of_ble_eq_true rfl) dX3_flood_10 ⟨Nat.le_of_ble_eq_true rfl, Nat.le_of_ble_eq_true rfl⟩ (fun E9 ce q9 H locs h9 hI g1 g2 g3 => ?_) (fun t2 H locs hI => ?_)
    · have n9 : ¬ (X_needRange Z S uk 1 100) = none := fun z => by rw [h9] at z; cases z
      have HE : X_flood Z S up uk = (X_needRange Z S uk 1 100, 0, S) := by exact (if_pos t1).trans ((if_neg n9))
      exact rx_thru hout hlocks hI hA hQ ⟨by rw [HE]; exact h9, rfl⟩ (Nat.le_of_ble_eq_true rfl) (Nat.le_of_ble_eq_true rfl) g1 g2 g3
    · refine lv_aload_n hx hb dX3_flood_13 rfl (lv_at hl 0 rfl) ?_
      refine cVv (rest := []) hx hb hml hts hown hK hE hI (cX_isWaterPiece G Z S up.toNatClampNeg (pN_lt hWZ t1)) kX3_82 ⟨Nat.le_of_ble_eq_true rfl, Nat.le_of_ble_eq_true rfl⟩ rfl rfl (kk := 1) (ii := up.toNatClampNeg) (xW1 (pN_lt hWZ t1)) rfl rfl hl.1 rfl (Nat.le_of_ble_eq_true rfl) dX3_flood_14 ⟨Nat.le_of_ble_eq_true rfl, Nat.le_of_ble_eq_true rfl⟩ (fun H locs hI => ?_)
      refine xb_eq (tgt := 39) hx hb dX3_flood_17 (by decide) (fun c3 => ?_) (fun c3 => ?_)
      · have HE : X_flood Z S up uk = ((some EISE), 0, S) := by exact (if_pos t1).trans ((if_pos t2).trans ((if_neg c3)))
        exact fx_throw hx hb hst hts hown hE hI hA hQ (by decide +kernel) q199 q9 at_ISE go_ISE (text := "the piece can't be flooded so") (List.mem_of_getElem? (i := 3) rfl) ⟨by rw [HE]; rfl, rfl⟩ (hl.1.trans hml.symm) hout hlocks (Nat.le_of_ble_eq_true rfl) (Nat.le_of_ble_eq_true rfl) (Nat.le_of_ble_eq_true rfl) (Nat.le_of_ble_eq_true rfl) (Nat.le_of_ble_eq_true rfl) (Nat.le_of_ble_eq_true rfl) dX3_flood_39 dX3_flood_42 dX3_flood_43 dX3_flood_45 dX3_flood_48
      · refine lv_aload_n hx hb dX3_flood_20 rfl (lv_at hl 0 rfl) ?_
        refine cVv (rest := []) hx hb hml hts hown hK hE hI (cX_hasIce G Z S up.toNatClampNeg (pN_lt hWZ t1)) kX3_85 ⟨Nat.le_of_ble_eq_true rfl, Nat.le_of_ble_eq_true rfl⟩ rfl rfl (kk := 1) (ii := up.toNatClampNeg) (xW1 (pN_lt hWZ t1)) rfl rfl hl.1 rfl (Nat.le_of_ble_eq_true rfl) dX3_flood_21 ⟨Nat.le_of_ble_eq_true rfl, Nat.le_of_ble_eq_true rfl⟩ (fun H locs hI => ?_)
        refine xb_eq (tgt := 39) hx hb dX3_flood_24 (by decide) (fun c4 => ?_) (fun c4 => ?_)
        · have HE : X_flood Z S up uk = ((some EISE), 0, S) := by exact (if_pos t1).trans ((if_pos t2).trans ((if_pos c3).trans ((if_neg c4))))
          exact fx_throw hx hb hst hts hown hE hI hA hQ (by decide +kernel) q199 q9 at_ISE go_ISE (text := "the piece can't be flooded so") (List.mem_of_getElem? (i := 3) rfl) ⟨by rw [HE]; rfl, rfl⟩ (hl.1.trans hml.symm) hout hlocks (Nat.le_of_ble_eq_true rfl) (Nat.le_of_ble_eq_true rfl) (Nat.le_of_ble_eq_true rfl) (Nat.le_of_ble_eq_true rfl) (Nat.le_of_ble_eq_true rfl) (Nat.le_of_ble_eq_true rfl) dX3_flood_39 dX3_flood_42 dX3_flood_43 dX3_flood_45 dX3_flood_48
        · refine lv_aload_n hx hb dX3_flood_27 rfl (lv_at hl 0 rfl) ?_
          refine gX3_88 (i := up.toNatClampNeg) hx hb hts hown hK hI (pN_lt hWZ t1) dX3_flood_28 ?_
          refine lv_iload_n hx hb dX3_flood_31 rfl (lv_at hl 3 rfl) ?_
          refine lv_iadd hx hb dX3_flood_32 ?_
          refine lv_sipush (v := 500) hx hb dX3_flood_33 (by decide) ?_
          refine lv_icmp_le (tgt := 49) hx hb dX3_flood_36 (by decide) (fun c5 => ?_) (fun c5 => ?_)
          · refine lv_aload_n hx hb dX3_flood_49 rfl (lv_at hl 0 rfl) ?_
            refine lv_iconst (v := 0) hx hb dX3_flood_50 (by decide) ?_
            obtain ⟨S6, eS6⟩ : ∃ z : XS, z = xset S 1 up.toNatClampNeg 6 0 := ⟨_, rfl⟩
            refine pX3_75 (i := up.toNatClampNeg) hx hb hts hown hK hI (pN_lt hWZ t1) eS6 dX3_flood_51 (fun H locs hI => ?_)
            refine lv_aload_n hx hb dX3_flood_54 rfl (lv_at hl 0 rfl) ?_
            refine lv_dup hx hb dX3_flood_55 rfl ?_
            refine gX3_88 (i := up.toNatClampNeg) hx hb hts hown hK hI (pN_lt hWZ t1) dX3_flood_56 ?_
            refine lv_iload_n hx hb dX3_flood_59 rfl (lv_at hl 3 rfl) ?_
            refine lv_iadd hx hb dX3_flood_60 ?_
            obtain ⟨S7, eS7⟩ : ∃ z : XS, z = xset S6 1 up.toNatClampNeg 5 ((S6.1 1 up.toNatClampNeg 5) + uk) := ⟨_, rfl⟩
            refine pX3_88 (i := up.toNatClampNeg) hx hb hts hown hK hI (pN_lt hWZ t1) eS7 dX3_flood_61 (fun H locs hI => ?_)
            refine lv_aload_n hx hb dX3_flood_64 rfl (lv_at hl 0 rfl) ?_
            refine gX3_88 (i := up.toNatClampNeg) hx hb hts hown hK hI (pN_lt hWZ t1) dX3_flood_65 ?_
            have HE : X_flood Z S up uk = (none, S7.1 1 up.toNatClampNeg 5, S7) := by subst eS7 eS6; exact (if_pos t1).trans ((if_pos t2).trans ((if_pos c3).trans ((if_pos c4).trans ((if_pos c5)))))
            exact rx_i hx hb hr hlocks hI hA hQ ⟨by rw [HE], by rw [HE], by rw [HE]⟩ (Nat.le_of_ble_eq_true rfl) (Nat.le_of_ble_eq_true rfl) dX3_flood_68
          · have HE : X_flood Z S up uk = ((some EISE), 0, S) := by exact (if_pos t1).trans ((if_pos t2).trans ((if_pos c3).trans ((if_pos c4).trans ((if_neg c5)))))
            exact fx_throw hx hb hst hts hown hE hI hA hQ (by decide +kernel) q199 q9 at_ISE go_ISE (text := "the piece can't be flooded so") (List.mem_of_getElem? (i := 3) rfl) ⟨by rw [HE]; rfl, rfl⟩ (hl.1.trans hml.symm) hout hlocks (Nat.le_of_ble_eq_true rfl) (Nat.le_of_ble_eq_true rfl) (Nat.le_of_ble_eq_true rfl) (Nat.le_of_ble_eq_true rfl) (Nat.le_of_ble_eq_true rfl) (Nat.le_of_ble_eq_true rfl) dX3_flood_39 dX3_flood_42 dX3_flood_43 dX3_flood_45 dX3_flood_48

def X_drill (Z : XZ) (S : XS) (up : Int32) : Option String × UInt64 × XS :=
  if X_pieceNumbered Z S up = none then
    let S2 := xkset S up.toNatClampNeg ⟨X_realThickness Z S up.toNatClampNeg, (nn_thickX _ _ _)⟩
    (none, (S2.2.1 up.toNatClampNeg).1, S2)
  else
    (X_pieceNumbered Z S up, 0, S)
set_option maxHeartbeats 4000000 in
set_option maxRecDepth 100000 in
theorem cX_drill (G : GX) (hst : G.1.stackTraces = false) (Z : XZ) (S : XS) (up : Int32) (hWZ : WZ Z) : FX G yX3_drill cX3_drill 3 (some .double) ({ frames := 7, cells := 1, slots := 6, locals := 103 }) [.ref (Z.A 0 0), .int up] (xW G.2.2.2 G.2.1 Z S) (pvx (X_drill Z S up).1 (.double (X_drill Z S up).2.1) (xW G.2.2.2 G.2.1 Z (X_drill Z S up).2.2)) (px (X_drill Z S up).1 (xW G.2.2.2 G.2.1 Z S)) := by
  refine FX.go (lv := [(0, .ref (Z.A 0 0)), (1, .int up)]) (by decide) (Nat.le_of_ble_eq_true rfl) rfl (fun p e s m args below meth c A H locs ls Q hx hb hr hts hown hml hlocks hout hK hE hI hA hl hQ => ?_)
  have hown : s.vm.findClass RX3 = some m.cls := hown
  refine lv_aload_n hx hb dX3_drill_0 rfl (lv_at hl 0 rfl) ?_
  refine lv_iload_n hx hb dX3_drill_1 rfl (lv_at hl 1 rfl) ?_
  refine dxVv (rest := []) hx hb hml hts hown hK hE hI (cX_pieceNumbered G hst Z S up hWZ) kX3_78 ⟨Nat.le_of_ble_eq_true rfl, Nat.le_of_ble_eq_true rfl⟩ (kk := 0) (ii := 0) (xW0 (by decide)) rfl rfl hl.1 rfl (Nat.le_of_ble_eq_true rfl) dX3_drill_2 ⟨Nat.le_of_ble_eq_true rfl, Nat.le_of_ble_eq_true rfl⟩ (fun E9 ce q9 H locs h9 hI g1 g2 g3 => ?_) (fun t1 H locs hI => ?_)
  · have n9 : ¬ (X_pieceNumbered Z S up) = none := fun z => by rw [h9] at z; cases z
    have HE : X_drill Z S up = (X_pieceNumbered Z S up, 0, S) := by exact (if_neg n9)
    exact rx_thru hout hlocks hI hA hQ ⟨by rw [HE]; exact h9, rfl⟩ (Nat.le_of_ble_eq_true rfl) (Nat.le_of_ble_eq_true rfl) g1 g2 g3
  · refine lv_astore_n (lv' := [(2, .ref (Z.A 1 up.toNatClampNeg)), (0, .ref (Z.A 0 0)), (1, .int up)]) hx hb dX3_drill_5 rfl hl (by decide) rfl (fun ls hl => ?_)
    refine lv_aload_n hx hb dX3_drill_6 rfl (lv_at hl 0 rfl) ?_
    refine lv_aload_n hx hb dX3_drill_7 rfl (lv_at hl 0 rfl) ?_
    refine cVv (rest := [.ref (Z.A 1 up.toNatClampNeg)]) hx hb hml hts hown hK hE hI (cX_realThickness G Z S up.toNatClampNeg (pN_lt hWZ t1)) kX3_93 ⟨Nat.le_of_ble_eq_true rfl, Nat.le_of_ble_eq_true rfl⟩ rfl rfl (kk := 1) (ii := up.toNatClampNeg) (xW1 (pN_lt hWZ t1)) rfl rfl hl.1 rfl (Nat.le_of_ble_eq_true rfl) dX3_drill_8 ⟨Nat.le_of_ble_eq_true rfl, Nat.le_of_ble_eq_true rfl⟩ (fun H locs hI => ?_)
    obtain ⟨S2, eS2⟩ : ∃ z : XS, z = xkset S up.toNatClampNeg ⟨X_realThickness Z S up.toNatClampNeg, (nn_thickX _ _ _)⟩ := ⟨_, rfl⟩
    refine pX3_97 (x := ⟨X_realThickness Z S up.toNatClampNeg, (nn_thickX _ _ _)⟩) (i := up.toNatClampNeg) hx hb hts hown hK hI (pN_lt hWZ t1) eS2 dX3_drill_11 (fun H locs hI => ?_)
    refine lv_aload_n hx hb dX3_drill_14 rfl (lv_at hl 0 rfl) ?_
    refine gX3_97 (i := up.toNatClampNeg) hx hb hts hown hK hI (pN_lt hWZ t1) dX3_drill_15 ?_
    have HE : X_drill Z S up = (none, (S2.2.1 up.toNatClampNeg).1, S2) := by subst eS2; exact (if_pos t1)
    exact rx_d hx hb hr hlocks hI hA hQ ⟨by rw [HE], by rw [HE], by rw [HE]⟩ (Nat.le_of_ble_eq_true rfl) (Nat.le_of_ble_eq_true rfl) dX3_drill_18

def X_open (Z : XZ) (S : XS) (up : Int32) (uk : Int32) : Option String × Int32 × XS :=
  if X_pieceNumbered Z S up = none then
    if X_needRange Z S uk 0 2 = none then
      let S3 := xset S 1 up.toNatClampNeg 8 uk
      (none, S.1 1 up.toNatClampNeg 8, S3)
    else
      (X_needRange Z S uk 0 2, 0, S)
  else
    (X_pieceNumbered Z S up, 0, S)
set_option maxHeartbeats 4000000 in
set_option maxRecDepth 100000 in
theorem cX_open (G : GX) (hst : G.1.stackTraces = false) (Z : XZ) (S : XS) (up : Int32) (uk : Int32) (hWZ : WZ Z) : FX G yX3_open cX3_open 5 (some .int) ({ frames := 7, cells := 2, slots := 12, locals := 104 }) [.ref (Z.A 0 0), .int up, .int uk] (xW G.2.2.2 G.2.1 Z S) (pvx (X_open Z S up uk).1 (.int (X_open Z S up uk).2.1) (xW G.2.2.2 G.2.1 Z (X_open Z S up uk).2.2)) (px (X_open Z S up uk).1 (xW G.2.2.2 G.2.1 Z S)) := by
  refine FX.go (lv := [(0, .ref (Z.A 0 0)), (1, .int up), (2, .int uk)]) (by decide) (Nat.le_of_ble_eq_true rfl) rfl (fun p e s m args below meth c A H locs ls Q hx hb hr hts hown hml hlocks hout hK hE hI hA hl hQ => ?_)
  have hown : s.vm.findClass RX3 = some m.cls := hown
  refine lv_aload_n hx hb dX3_open_0 rfl (lv_at hl 0 rfl) ?_
  refine lv_iload_n hx hb dX3_open_1 rfl (lv_at hl 1 rfl) ?_
  refine dxVv (rest := []) hx hb hml hts hown hK hE hI (cX_pieceNumbered G hst Z S up hWZ) kX3_78 ⟨Nat.le_of_ble_eq_true rfl, Nat.le_of_ble_eq_true rfl⟩ (kk := 0) (ii := 0) (xW0 (by decide)) rfl rfl hl.1 rfl (Nat.le_of_ble_eq_true rfl) dX3_open_2 ⟨Nat.le_of_ble_eq_true rfl, Nat.le_of_ble_eq_true rfl⟩ (fun E9 ce q9 H locs h9 hI g1 g2 g3 => ?_) (fun t1 H locs hI => ?_)
  · have n9 : ¬ (X_pieceNumbered Z S up) = none := fun z => by rw [h9] at z; cases z
    have HE : X_open Z S up uk = (X_pieceNumbered Z S up, 0, S) := by exact (if_neg n9)
    exact rx_thru hout hlocks hI hA hQ ⟨by rw [HE]; exact h9, rfl⟩ (Nat.le_of_ble_eq_true rfl) (Nat.le_of_ble_eq_true rfl) g1 g2 g3
  · refine lv_astore_n (lv' := [(3, .ref (Z.A 1 up.toNatClampNeg)), (0, .ref (Z.A 0 0)), (1, .int up), (2, .int uk)]) hx hb dX3_open_5 rfl hl (by decide) rfl (fun ls hl => ?_)
    refine lv_iload_n hx hb dX3_open_6 rfl (lv_at hl 3 rfl) ?_
    refine lv_iconst (v := 0) hx hb dX3_open_7 (by decide) ?_
    refine lv_iconst (v := 2) hx hb dX3_open_8 (by decide) ?_
    refine dxS0 (rest := []) hx hb hml hts hown hK hE hI (cX_needRange G hst Z S uk 0 2) kX3_42 ⟨Nat.le_of_ble_eq_true rfl, Nat.le_of_ble_eq_true rfl⟩ hl.1 rfl (Nat.le_of_ble_eq_true rfl) dX3_open_9 ⟨Nat.le_of_ble_eq_true rfl, Nat.le_of_ble_eq_true rfl⟩ (fun E9 ce q9 H locs h9 hI g1 g2 g3 => ?_) (fun t2 H locs hI => ?_)
    · have n9 : ¬ (X_needRange Z S uk 0 2) = none := fun z => by rw [h9] at z; cases z
      have HE : X_open Z S up uk = (X_needRange Z S uk 0 2, 0, S) := by exact (if_pos t1).trans ((if_neg n9))
      exact rx_thru hout hlocks hI hA hQ ⟨by rw [HE]; exact h9, rfl⟩ (Nat.le_of_ble_eq_true rfl) (Nat.le_of_ble_eq_true rfl) g1 g2 g3
    · refine lv_aload_n hx hb dX3_open_12 rfl (lv_at hl 0 rfl) ?_
      refine gX3_101 (i := up.toNatClampNeg) hx hb hts hown hK hI (pN_lt hWZ t1) dX3_open_13 ?_
      refine lv_istore (lv' := [(4, .int (S.1 1 up.toNatClampNeg 8)), (3, .ref (Z.A 1 up.toNatClampNeg)), (0, .ref (Z.A 0 0)), (1, .int up), (2, .int uk)]) hx hb dX3_open_16 hl (by decide) rfl (fun ls hl => ?_)
      refine lv_aload_n hx hb dX3_open_18 rfl (lv_at hl 1 rfl) ?_
      refine lv_iload_n hx hb dX3_open_19 rfl (lv_at hl 4 rfl) ?_
      obtain ⟨S3, eS3⟩ : ∃ z : XS, z = xset S 1 up.toNatClampNeg 8 uk := ⟨_, rfl⟩
      refine pX3_101 (i := up.toNatClampNeg) hx hb hts hown hK hI (pN_lt hWZ t1) eS3 dX3_open_20 (fun H locs hI => ?_)
      refine lv_iload hx hb dX3_open_23 (lv_at hl 0 rfl) ?_
      have HE : X_open Z S up uk = (none, S.1 1 up.toNatClampNeg 8, S3) := by subst eS3; exact (if_pos t1).trans ((if_pos t2))
      exact rx_i hx hb hr hlocks hI hA hQ ⟨by rw [HE], by rw [HE], by rw [HE]⟩ (Nat.le_of_ble_eq_true rfl) (Nat.le_of_ble_eq_true rfl) dX3_open_25

def X_limit (Z : XZ) (S : XS) (up : Int32) (uk : Int32) : Option String × Int32 × XS :=
  if X_pieceNumbered Z S up = none then
    if X_needRange Z S uk 1 300 = none then
      let S3 := xset S 1 up.toNatClampNeg 9 uk
      (none, S.1 1 up.toNatClampNeg 9, S3)
    else
      (X_needRange Z S uk 1 300, 0, S)
  else
    (X_pieceNumbered Z S up, 0, S)
set_option maxHeartbeats 4000000 in
set_option maxRecDepth 100000 in
theorem cX_limit (G : GX) (hst : G.1.stackTraces = false) (Z : XZ) (S : XS) (up : Int32) (uk : Int32) (hWZ : WZ Z) : FX G yX3_limit cX3_limit 5 (some .int) ({ frames := 7, cells := 2, slots := 12, locals := 104 }) [.ref (Z.A 0 0), .int up, .int uk] (xW G.2.2.2 G.2.1 Z S) (pvx (X_limit Z S up uk).1 (.int (X_limit Z S up uk).2.1) (xW G.2.2.2 G.2.1 Z (X_limit Z S up uk).2.2)) (px (X_limit Z S up uk).1 (xW G.2.2.2 G.2.1 Z S)) := by
  refine FX.go (lv := [(0, .ref (Z.A 0 0)), (1, .int up), (2, .int uk)]) (by decide) (Nat.le_of_ble_eq_true rfl) rfl (fun p e s m args below meth c A H locs ls Q hx hb hr hts hown hml hlocks hout hK hE hI hA hl hQ => ?_)
  have hown : s.vm.findClass RX3 = some m.cls := hown
  refine lv_aload_n hx hb dX3_limit_0 rfl (lv_at hl 0 rfl) ?_
  refine lv_iload_n hx hb dX3_limit_1 rfl (lv_at hl 1 rfl) ?_
  refine dxVv (rest := []) hx hb hml hts hown hK hE hI (cX_pieceNumbered G hst Z S up hWZ) kX3_78 ⟨Nat.le_of_ble_eq_true rfl, Nat.le_of_ble_eq_true rfl⟩ (kk := 0) (ii := 0) (xW0 (by decide)) rfl rfl hl.1 rfl (Nat.le_of_ble_eq_true rfl) dX3_limit_2 ⟨Nat.le_of_ble_eq_true rfl, Nat.le_of_ble_eq_true rfl⟩ (fun E9 ce q9 H locs h9 hI g1 g2 g3 => ?_) (fun t1 H locs hI => ?_)
  · have n9 : ¬ (X_pieceNumbered Z S up) = none := fun z => by rw [h9] at z; cases z
    have HE : X_limit Z S up uk = (X_pieceNumbered Z S up, 0, S) := by exact (if_neg n9)
    exact rx_thru hout hlocks hI hA hQ ⟨by rw [HE]; exact h9, rfl⟩ (Nat.le_of_ble_eq_true rfl) (Nat.le_of_ble_eq_true rfl) g1 g2 g3
  · refine lv_astore_n (lv' := [(3, .ref (Z.A 1 up.toNatClampNeg)), (0, .ref (Z.A 0 0)), (1, .int up), (2, .int uk)]) hx hb dX3_limit_5 rfl hl (by decide) rfl (fun ls hl => ?_)
    refine lv_iload_n hx hb dX3_limit_6 rfl (lv_at hl 3 rfl) ?_
    refine lv_iconst (v := 1) hx hb dX3_limit_7 (by decide) ?_
    refine lv_sipush (v := 300) hx hb dX3_limit_8 (by decide) ?_
    refine dxS0 (rest := []) hx hb hml hts hown hK hE hI (cX_needRange G hst Z S uk 1 300) kX3_42 ⟨Nat.le_of_ble_eq_true rfl, Nat.le_of_ble_eq_true rfl⟩ hl.1 rfl (Nat.le_of_ble_eq_true rfl) dX3_limit_11 ⟨Nat.le_of_ble_eq_true rfl, Nat.le_of_ble_eq_true rfl⟩ (fun E9 ce q9 H locs h9 hI g1 g2 g3 => ?_) (fun t2 H locs hI => ?_)
    · have n9 : ¬ (X_needRange Z S uk 1 300) = none := fun z => by rw [h9] at z; cases z
      have HE : X_limit Z S up uk = (X_needRange Z S uk 1 300, 0, S) := by exact (if_pos t1).trans ((if_neg n9))
      exact rx_thru hout hlocks hI hA hQ ⟨by rw [HE]; exact h9, rfl⟩ (Nat.le_of_ble_eq_true rfl) (Nat.le_of_ble_eq_true rfl) g1 g2 g3
    · refine lv_aload_n hx hb dX3_limit_14 rfl (lv_at hl 0 rfl) ?_
      refine gX3_104 (i := up.toNatClampNeg) hx hb hts hown hK hI (pN_lt hWZ t1) dX3_limit_15 ?_
      refine lv_istore (lv' := [(4, .int (S.1 1 up.toNatClampNeg 9)), (3, .ref (Z.A 1 up.toNatClampNeg)), (0, .ref (Z.A 0 0)), (1, .int up), (2, .int uk)]) hx hb dX3_limit_18 hl (by decide) rfl (fun ls hl => ?_)
      refine lv_aload_n hx hb dX3_limit_20 rfl (lv_at hl 1 rfl) ?_
      refine lv_iload_n hx hb dX3_limit_21 rfl (lv_at hl 4 rfl) ?_
      obtain ⟨S3, eS3⟩ : ∃ z : XS, z = xset S 1 up.toNatClampNeg 9 uk := ⟨_, rfl⟩
      refine pX3_104 (i := up.toNatClampNeg) hx hb hts hown hK hI (pN_lt hWZ t1) eS3 dX3_limit_22 (fun H locs hI => ?_)
      refine lv_iload hx hb dX3_limit_25 (lv_at hl 0 rfl) ?_
      have HE : X_limit Z S up uk = (none, S.1 1 up.toNatClampNeg 9, S3) := by subst eS3; exact (if_pos t1).trans ((if_pos t2))
      exact rx_i hx hb hr hlocks hI hA hQ ⟨by rw [HE], by rw [HE], by rw [HE]⟩ (Nat.le_of_ble_eq_true rfl) (Nat.le_of_ble_eq_true rfl) dX3_limit_27

def X_gap (Z : XZ) (S : XS) (uk : Int32) : Option String × Int32 × XS :=
  if X_needRange Z S uk 0 120 = none then
    let S2 := xset S 0 0 8 uk
    (none, S.1 0 0 8, S2)
  else
    (X_needRange Z S uk 0 120, 0, S)
set_option maxHeartbeats 4000000 in
set_option maxRecDepth 100000 in
theorem cX_gap (G : GX) (hst : G.1.stackTraces = false) (Z : XZ) (S : XS) (uk : Int32) : FX G yX3_gap cX3_gap 3 (some .int) ({ frames := 7, cells := 1, slots := 6, locals := 104 }) [.ref (Z.A 0 0), .int uk] (xW G.2.2.2 G.2.1 Z S) (pvx (X_gap Z S uk).1 (.int (X_gap Z S uk).2.1) (xW G.2.2.2 G.2.1 Z (X_gap Z S uk).2.2)) (px (X_gap Z S uk).1 (xW G.2.2.2 G.2.1 Z S)) := by
  refine FX.go (lv := [(0, .ref (Z.A 0 0)), (1, .int uk)]) (by decide) (Nat.le_of_ble_eq_true rfl) rfl (fun p e s m args below meth c A H locs ls Q hx hb hr hts hown hml hlocks hout hK hE hI hA hl hQ => ?_)
  have hown : s.vm.findClass RX3 = some m.cls := hown
  refine lv_iload_n hx hb dX3_gap_0 rfl (lv_at hl 1 rfl) ?_
  refine lv_iconst (v := 0) hx hb dX3_gap_1 (by decide) ?_
  refine lv_bipush (v := 120) hx hb dX3_gap_2 (by decide) ?_
  refine dxS0 (rest := []) hx hb hml hts hown hK hE hI (cX_needRange G hst Z S uk 0 120) kX3_42 ⟨Nat.le_of_ble_eq_true rfl, Nat.le_of_ble_eq_true rfl⟩ hl.1 rfl (Nat.le_of_ble_eq_true rfl) dX3_gap_4 ⟨Nat.le_of_ble_eq_true rfl, Nat.le_of_ble_eq_true rfl⟩ (fun E9 ce q9 H locs h9 hI g1 g2 g3 => ?_) (fun t1 H locs hI => ?_)
  · have n9 : ¬ (X_needRange Z S uk 0 120) = none := fun z => by rw [h9] at z; cases z
    have HE : X_gap Z S uk = (X_needRange Z S uk 0 120, 0, S) := by exact (if_neg n9)
    exact rx_thru hout hlocks hI hA hQ ⟨by rw [HE]; exact h9, rfl⟩ (Nat.le_of_ble_eq_true rfl) (Nat.le_of_ble_eq_true rfl) g1 g2 g3
  · refine lv_aload_n hx hb dX3_gap_7 rfl (lv_at hl 0 rfl) ?_
    refine gX3_39 (i := 0) hx hb hts hown hK hI (by decide) dX3_gap_8 ?_
    refine lv_istore_n (lv' := [(2, .int (S.1 0 0 8)), (0, .ref (Z.A 0 0)), (1, .int uk)]) hx hb dX3_gap_11 rfl hl (by decide) rfl (fun ls hl => ?_)
    refine lv_aload_n hx hb dX3_gap_12 rfl (lv_at hl 1 rfl) ?_
    refine lv_iload_n hx hb dX3_gap_13 rfl (lv_at hl 2 rfl) ?_
    obtain ⟨S2, eS2⟩ : ∃ z : XS, z = xset S 0 0 8 uk := ⟨_, rfl⟩
    refine pX3_39 (i := 0) hx hb hts hown hK hI (by decide) eS2 dX3_gap_14 (fun H locs hI => ?_)
    refine lv_iload_n hx hb dX3_gap_17 rfl (lv_at hl 0 rfl) ?_
    have HE : X_gap Z S uk = (none, S.1 0 0 8, S2) := by subst eS2; exact (if_pos t1)
    exact rx_i hx hb hr hlocks hI hA hQ ⟨by rw [HE], by rw [HE], by rw [HE]⟩ (Nat.le_of_ble_eq_true rfl) (Nat.le_of_ble_eq_true rfl) dX3_gap_18

def X_go (Z : XZ) (S : XS) (uv : Int32) : Option String × Int32 × XS :=
  if X_vehicleNumbered Z S uv = none then
    if (S.1 2 uv.toNatClampNeg 3) = 0 then
      let S4 := xset S 2 uv.toNatClampNeg 5 (bI ((S.1 2 uv.toNatClampNeg 3) = 0))
      let S5 := xset S4 2 uv.toNatClampNeg 3 2
      (none, S5.1 2 uv.toNatClampNeg 5, S5)
    else
      if (S.1 2 uv.toNatClampNeg 3) = 3 then
        let S11 := xset S 2 uv.toNatClampNeg 5 (bI ((S.1 2 uv.toNatClampNeg 3) = 0))
        let S12 := xset S11 2 uv.toNatClampNeg 3 2
        (none, S12.1 2 uv.toNatClampNeg 5, S12)
      else
        ((some EISE), 0, S)
  else
    (X_vehicleNumbered Z S uv, 0, S)
set_option maxHeartbeats 4000000 in
set_option maxRecDepth 100000 in
theorem cX_go (G : GX) (hst : G.1.stackTraces = false) (Z : XZ) (S : XS) (uv : Int32) (hWZ : WZ Z) : FX G yX3_go cX3_go 3 (some .boolean) ({ frames := 7, cells := 2, slots := 12, locals := 103 }) [.ref (Z.A 0 0), .int uv] (xW G.2.2.2 G.2.1 Z S) (pvx (X_go Z S uv).1 (.int (X_go Z S uv).2.1) (xW G.2.2.2 G.2.1 Z (X_go Z S uv).2.2)) (px (X_go Z S uv).1 (xW G.2.2.2 G.2.1 Z S)) := by
  refine FX.go (lv := [(0, .ref (Z.A 0 0)), (1, .int uv)]) (by decide) (Nat.le_of_ble_eq_true rfl) rfl (fun p e s m args below meth c A H locs ls Q hx hb hr hts hown hml hlocks hout hK hE hI hA hl hQ => ?_)
  have hown : s.vm.findClass RX3 = some m.cls := hown
  refine lv_aload_n hx hb dX3_go_0 rfl (lv_at hl 0 rfl) ?_
  refine lv_iload_n hx hb dX3_go_1 rfl (lv_at hl 1 rfl) ?_
  refine dxVv (rest := []) hx hb hml hts hown hK hE hI (cX_vehicleNumbered G hst Z S uv hWZ) kX3_114 ⟨Nat.le_of_ble_eq_true rfl, Nat.le_of_ble_eq_true rfl⟩ (kk := 0) (ii := 0) (xW0 (by decide)) rfl rfl hl.1 rfl (Nat.le_of_ble_eq_true rfl) dX3_go_2 ⟨Nat.le_of_ble_eq_true rfl, Nat.le_of_ble_eq_true rfl⟩ (fun E9 ce q9 H locs h9 hI g1 g2 g3 => ?_) (fun t1 H locs hI => ?_)
  · have n9 : ¬ (X_vehicleNumbered Z S uv) = none := fun z => by rw [h9] at z; cases z
    have HE : X_go Z S uv = (X_vehicleNumbered Z S uv, 0, S) := by exact (if_neg n9)
    exact rx_thru hout hlocks hI hA hQ ⟨by rw [HE]; exact h9, rfl⟩ (Nat.le_of_ble_eq_true rfl) (Nat.le_of_ble_eq_true rfl) g1 g2 g3
  · refine lv_astore_n (lv' := [(2, .ref (Z.A 2 uv.toNatClampNeg)), (0, .ref (Z.A 0 0)), (1, .int uv)]) hx hb dX3_go_5 rfl hl (by decide) rfl (fun ls hl => ?_)
    refine lv_aload_n hx hb dX3_go_6 rfl (lv_at hl 0 rfl) ?_
    refine gX3_125 (i := uv.toNatClampNeg) hx hb hts hown hK hI (vN_lt hWZ t1) dX3_go_7 ?_
    refine lv_if_eq (tgt := 31) hx hb dX3_go_10 (by decide) (fun c2 => ?_) (fun c2 => ?_)
    · refine lv_aload_n hx hb dX3_go_31 rfl (lv_at hl 0 rfl) ?_
      refine lv_aload_n hx hb dX3_go_32 rfl (lv_at hl 0 rfl) ?_
      refine gX3_125 (i := uv.toNatClampNeg) hx hb hts hown hK hI (vN_lt hWZ t1) dX3_go_33 ?_
      have hJ3 : W p G.1 e ({ frames := 7, cells := 2, slots := 12, locals := 103 }) s m args below meth c H locs 1 6 Q (F0 m 44 ls [.int (bI ((S.1 2 uv.toNatClampNeg 3) = 0)), .ref (Z.A 2 uv.toNatClampNeg)]) := by
        obtain ⟨S4, eS4⟩ : ∃ z : XS, z = xset S 2 uv.toNatClampNeg 5 (bI ((S.1 2 uv.toNatClampNeg 3) = 0)) := ⟨_, rfl⟩
        refine pX3_144 (i := uv.toNatClampNeg) hx hb hts hown hK hI (vN_lt hWZ t1) bI_01 eS4 dX3_go_44 (fun H locs hI => ?_)
        refine lv_aload_n hx hb dX3_go_47 rfl (lv_at hl 0 rfl) ?_
        refine lv_iconst (v := 2) hx hb dX3_go_48 (by decide) ?_
        obtain ⟨S5, eS5⟩ : ∃ z : XS, z = xset S4 2 uv.toNatClampNeg 3 2 := ⟨_, rfl⟩
        refine pX3_125 (i := uv.toNatClampNeg) hx hb hts hown hK hI (vN_lt hWZ t1) eS5 dX3_go_49 (fun H locs hI => ?_)
        refine lv_aload_n hx hb dX3_go_52 rfl (lv_at hl 0 rfl) ?_
        refine gX3_144 (i := uv.toNatClampNeg) hx hb hts hown hK hI (vN_lt hWZ t1) dX3_go_53 ?_
        have HE : X_go Z S uv = (none, S5.1 2 uv.toNatClampNeg 5, S5) := by subst eS5 eS4; exact (if_pos t1).trans ((if_pos c2))
        exact rx_z hx hb hr hlocks (by subst eS5 eS4; rw [xset_f (by decide), xset_s]; exact bI_narrow) hI hA hQ ⟨by rw [HE], by rw [HE], by rw [HE]⟩ (Nat.le_of_ble_eq_true rfl) (Nat.le_of_ble_eq_true rfl) dX3_go_56
      refine lv_if_ne (tgt := 43) hx hb dX3_go_36 (by decide) (fun c6 => ?_) (fun c6 => ?_)
      · refine lv_iconst (v := 0) hx hb dX3_go_43 (by decide) ?_
        have eb7 : (0 : Int32) = bI ((S.1 2 uv.toNatClampNeg 3) = 0) := (bI_f c6).symm
        rw [eb7]
        exact hJ3
      · refine lv_iconst (v := 1) hx hb dX3_go_39 (by decide) ?_
        refine lv_goto (tgt := 44) hx hb dX3_go_40 (by decide) ?_
        have eb8 : (1 : Int32) = bI ((S.1 2 uv.toNatClampNeg 3) = 0) := (bI_t c6).symm
        rw [eb8]
        exact hJ3
    · refine lv_aload_n hx hb dX3_go_13 rfl (lv_at hl 0 rfl) ?_
      refine gX3_125 (i := uv.toNatClampNeg) hx hb hts hown hK hI (vN_lt hWZ t1) dX3_go_14 ?_
      refine lv_iconst (v := 3) hx hb dX3_go_17 (by decide) ?_
      refine lv_icmp_eq (tgt := 31) hx hb dX3_go_18 (by decide) (fun c9 => ?_) (fun c9 => ?_)
      · refine lv_aload_n hx hb dX3_go_31 rfl (lv_at hl 0 rfl) ?_
        refine lv_aload_n hx hb dX3_go_32 rfl (lv_at hl 0 rfl) ?_
        refine gX3_125 (i := uv.toNatClampNeg) hx hb hts hown hK hI (vN_lt hWZ t1) dX3_go_33 ?_
        have hJ10 : W p G.1 e ({ frames := 7, cells := 2, slots := 12, locals := 103 }) s m args below meth c H locs 1 6 Q (F0 m 44 ls [.int (bI ((S.1 2 uv.toNatClampNeg 3) = 0)), .ref (Z.A 2 uv.toNatClampNeg)]) := by
          obtain ⟨S11, eS11⟩ : ∃ z : XS, z = xset S 2 uv.toNatClampNeg 5 (bI ((S.1 2 uv.toNatClampNeg 3) = 0)) := ⟨_, rfl⟩
          refine pX3_144 (i := uv.toNatClampNeg) hx hb hts hown hK hI (vN_lt hWZ t1) bI_01 eS11 dX3_go_44 (fun H locs hI => ?_)
          refine lv_aload_n hx hb dX3_go_47 rfl (lv_at hl 0 rfl) ?_
          refine lv_iconst (v := 2) hx hb dX3_go_48 (by decide) ?_
          obtain ⟨S12, eS12⟩ : ∃ z : XS, z = xset S11 2 uv.toNatClampNeg 3 2 := ⟨_, rfl⟩
          refine pX3_125 (i := uv.toNatClampNeg) hx hb hts hown hK hI (vN_lt hWZ t1) eS12 dX3_go_49 (fun H locs hI => ?_)
          refine lv_aload_n hx hb dX3_go_52 rfl (lv_at hl 0 rfl) ?_
          refine gX3_144 (i := uv.toNatClampNeg) hx hb hts hown hK hI (vN_lt hWZ t1) dX3_go_53 ?_
          have HE : X_go Z S uv = (none, S12.1 2 uv.toNatClampNeg 5, S12) := by subst eS12 eS11; exact (if_pos t1).trans ((if_neg c2).trans ((if_pos c9)))
          exact rx_z hx hb hr hlocks (by subst eS12 eS11; rw [xset_f (by decide), xset_s]; exact bI_narrow) hI hA hQ ⟨by rw [HE], by rw [HE], by rw [HE]⟩ (Nat.le_of_ble_eq_true rfl) (Nat.le_of_ble_eq_true rfl) dX3_go_56
        refine lv_if_ne (tgt := 43) hx hb dX3_go_36 (by decide) (fun c13 => ?_) (fun c13 => ?_)
        · refine lv_iconst (v := 0) hx hb dX3_go_43 (by decide) ?_
          have eb14 : (0 : Int32) = bI ((S.1 2 uv.toNatClampNeg 3) = 0) := (bI_f c13).symm
          rw [eb14]
          exact hJ10
        · refine lv_iconst (v := 1) hx hb dX3_go_39 (by decide) ?_
          refine lv_goto (tgt := 44) hx hb dX3_go_40 (by decide) ?_
          have eb15 : (1 : Int32) = bI ((S.1 2 uv.toNatClampNeg 3) = 0) := (bI_t c13).symm
          rw [eb15]
          exact hJ10
      · have HE : X_go Z S uv = ((some EISE), 0, S) := by exact (if_pos t1).trans ((if_neg c2).trans ((if_neg c9)))
        exact fx_throw hx hb hst hts hown hE hI hA hQ (by decide +kernel) q199 q9 at_ISE go_ISE (text := "the vehicle is not at the base or the mine") (List.mem_of_getElem? (i := 8) rfl) ⟨by rw [HE]; rfl, rfl⟩ (hl.1.trans hml.symm) hout hlocks (Nat.le_of_ble_eq_true rfl) (Nat.le_of_ble_eq_true rfl) (Nat.le_of_ble_eq_true rfl) (Nat.le_of_ble_eq_true rfl) (Nat.le_of_ble_eq_true rfl) (Nat.le_of_ble_eq_true rfl) dX3_go_21 dX3_go_24 dX3_go_25 dX3_go_27 dX3_go_30

def X_turn (Z : XZ) (S : XS) (uv : Int32) : Option String × Int32 × XS :=
  if X_vehicleNumbered Z S uv = none then
    if (S.1 2 uv.toNatClampNeg 3) = 2 then
      let S4 := xset S 2 uv.toNatClampNeg 5 (bI ((S.1 2 uv.toNatClampNeg 5) = 0))
      let S5 := X_stopAtEnd Z S4 uv.toNatClampNeg
      (none, S5.1 2 uv.toNatClampNeg 5, S5)
    else
      ((some EISE), 0, S)
  else
    (X_vehicleNumbered Z S uv, 0, S)
set_option maxHeartbeats 4000000 in
set_option maxRecDepth 100000 in
theorem cX_turn (G : GX) (hst : G.1.stackTraces = false) (Z : XZ) (S : XS) (uv : Int32) (hWZ : WZ Z) (hC : CW Z S) : FX G yX3_turn cX3_turn 3 (some .boolean) ({ frames := 7, cells := 2, slots := 12, locals := 103 }) [.ref (Z.A 0 0), .int uv] (xW G.2.2.2 G.2.1 Z S) (pvx (X_turn Z S uv).1 (.int (X_turn Z S uv).2.1) (xW G.2.2.2 G.2.1 Z (X_turn Z S uv).2.2)) (px (X_turn Z S uv).1 (xW G.2.2.2 G.2.1 Z S)) := by
  refine FX.go (lv := [(0, .ref (Z.A 0 0)), (1, .int uv)]) (by decide) (Nat.le_of_ble_eq_true rfl) rfl (fun p e s m args below meth c A H locs ls Q hx hb hr hts hown hml hlocks hout hK hE hI hA hl hQ => ?_)
  have hown : s.vm.findClass RX3 = some m.cls := hown
  refine lv_aload_n hx hb dX3_turn_0 rfl (lv_at hl 0 rfl) ?_
  refine lv_iload_n hx hb dX3_turn_1 rfl (lv_at hl 1 rfl) ?_
  refine dxVv (rest := []) hx hb hml hts hown hK hE hI (cX_vehicleNumbered G hst Z S uv hWZ) kX3_114 ⟨Nat.le_of_ble_eq_true rfl, Nat.le_of_ble_eq_true rfl⟩ (kk := 0) (ii := 0) (xW0 (by decide)) rfl rfl hl.1 rfl (Nat.le_of_ble_eq_true rfl) dX3_turn_2 ⟨Nat.le_of_ble_eq_true rfl, Nat.le_of_ble_eq_true rfl⟩ (fun E9 ce q9 H locs h9 hI g1 g2 g3 => ?_) (fun t1 H locs hI => ?_)
  · have n9 : ¬ (X_vehicleNumbered Z S uv) = none := fun z => by rw [h9] at z; cases z
    have HE : X_turn Z S uv = (X_vehicleNumbered Z S uv, 0, S) := by exact (if_neg n9)
    exact rx_thru hout hlocks hI hA hQ ⟨by rw [HE]; exact h9, rfl⟩ (Nat.le_of_ble_eq_true rfl) (Nat.le_of_ble_eq_true rfl) g1 g2 g3
  · refine lv_astore_n (lv' := [(2, .ref (Z.A 2 uv.toNatClampNeg)), (0, .ref (Z.A 0 0)), (1, .int uv)]) hx hb dX3_turn_5 rfl hl (by decide) rfl (fun ls hl => ?_)
    refine lv_aload_n hx hb dX3_turn_6 rfl (lv_at hl 0 rfl) ?_
    refine gX3_125 (i := uv.toNatClampNeg) hx hb hts hown hK hI (vN_lt hWZ t1) dX3_turn_7 ?_
    refine lv_iconst (v := 2) hx hb dX3_turn_10 (by decide) ?_
    refine lv_icmp_eq (tgt := 24) hx hb dX3_turn_11 (by decide) (fun c2 => ?_) (fun c2 => ?_)
    · refine lv_aload_n hx hb dX3_turn_24 rfl (lv_at hl 0 rfl) ?_
      refine lv_aload_n hx hb dX3_turn_25 rfl (lv_at hl 0 rfl) ?_
      refine gX3_144 (i := uv.toNatClampNeg) hx hb hts hown hK hI (vN_lt hWZ t1) dX3_turn_26 ?_
      have hJ3 : W p G.1 e ({ frames := 7, cells := 2, slots := 12, locals := 103 }) s m args below meth c H locs 1 6 Q (F0 m 37 ls [.int (bI ((S.1 2 uv.toNatClampNeg 5) = 0)), .ref (Z.A 2 uv.toNatClampNeg)]) := by
        obtain ⟨S4, eS4⟩ : ∃ z : XS, z = xset S 2 uv.toNatClampNeg 5 (bI ((S.1 2 uv.toNatClampNeg 5) = 0)) := ⟨_, rfl⟩
        refine pX3_144 (i := uv.toNatClampNeg) hx hb hts hown hK hI (vN_lt hWZ t1) bI_01 eS4 dX3_turn_37 (fun H locs hI => ?_)
        refine lv_aload_n hx hb dX3_turn_40 rfl (lv_at hl 1 rfl) ?_
        refine lv_aload_n hx hb dX3_turn_41 rfl (lv_at hl 0 rfl) ?_
        obtain ⟨S5, eS5⟩ : ∃ z : XS, z = X_stopAtEnd Z S4 uv.toNatClampNeg := ⟨_, rfl⟩
        refine cV0 (rest := []) hx hb hml hts hown hK hE hI (cX_stopAtEnd G Z S4 uv.toNatClampNeg (vN_lt hWZ t1) (CW_set eS4 hC)) kX3_150 ⟨Nat.le_of_ble_eq_true rfl, Nat.le_of_ble_eq_true rfl⟩ rfl rfl (kk := 0) (ii := 0) (xW0 (by decide)) rfl rfl hl.1 rfl (Nat.le_of_ble_eq_true rfl) dX3_turn_42 ⟨Nat.le_of_ble_eq_true rfl, Nat.le_of_ble_eq_true rfl⟩ (fun H locs hI => ?_)
        rw [← eS5] at hI
        refine lv_aload_n hx hb dX3_turn_45 rfl (lv_at hl 0 rfl) ?_
        refine gX3_144 (i := uv.toNatClampNeg) hx hb hts hown hK hI (vN_lt hWZ t1) dX3_turn_46 ?_
        have HE : X_turn Z S uv = (none, S5.1 2 uv.toNatClampNeg 5, S5) := by subst eS5 eS4; exact (if_pos t1).trans ((if_pos c2))
        exact rx_z hx hb hr hlocks (by subst eS5 eS4; rw [X_stopAtEnd_5, xset_s]; exact bI_narrow) hI hA hQ ⟨by rw [HE], by rw [HE], by rw [HE]⟩ (Nat.le_of_ble_eq_true rfl) (Nat.le_of_ble_eq_true rfl) dX3_turn_49
      refine lv_if_ne (tgt := 36) hx hb dX3_turn_29 (by decide) (fun c6 => ?_) (fun c6 => ?_)
      · refine lv_iconst (v := 0) hx hb dX3_turn_36 (by decide) ?_
        have eb7 : (0 : Int32) = bI ((S.1 2 uv.toNatClampNeg 5) = 0) := (bI_f c6).symm
        rw [eb7]
        exact hJ3
      · refine lv_iconst (v := 1) hx hb dX3_turn_32 (by decide) ?_
        refine lv_goto (tgt := 37) hx hb dX3_turn_33 (by decide) ?_
        have eb8 : (1 : Int32) = bI ((S.1 2 uv.toNatClampNeg 5) = 0) := (bI_t c6).symm
        rw [eb8]
        exact hJ3
    · have HE : X_turn Z S uv = ((some EISE), 0, S) := by exact (if_pos t1).trans ((if_neg c2))
      exact fx_throw hx hb hst hts hown hE hI hA hQ (by decide +kernel) q199 q9 at_ISE go_ISE (text := "the vehicle is not at a ramp") (List.mem_of_getElem? (i := 9) rfl) ⟨by rw [HE]; rfl, rfl⟩ (hl.1.trans hml.symm) hout hlocks (Nat.le_of_ble_eq_true rfl) (Nat.le_of_ble_eq_true rfl) (Nat.le_of_ble_eq_true rfl) (Nat.le_of_ble_eq_true rfl) (Nat.le_of_ble_eq_true rfl) (Nat.le_of_ble_eq_true rfl) dX3_turn_14 dX3_turn_17 dX3_turn_18 dX3_turn_20 dX3_turn_23

def X_order (Z : XZ) (S : XS) (ug : Int32) (uk : Int32) : Option String × Int32 × XS :=
  if X_needGoods Z S ug = none then
    if X_needRange Z S uk 1 1000000 = none then
      if ((S.1 5 5 ug.toNatClampNeg) + uk) ≤ 10000000 then
        let S4 := xset S 5 5 ug.toNatClampNeg ((S.1 5 5 ug.toNatClampNeg) + uk)
        (none, S4.1 5 5 ug.toNatClampNeg, S4)
      else
        ((some EISE), 0, S)
    else
      (X_needRange Z S uk 1 1000000, 0, S)
  else
    (X_needGoods Z S ug, 0, S)
set_option maxHeartbeats 4000000 in
set_option maxRecDepth 100000 in
theorem cX_order (G : GX) (hst : G.1.stackTraces = false) (Z : XZ) (S : XS) (ug : Int32) (uk : Int32) : FX G yX3_order cX3_order 3 (some .int) ({ frames := 7, cells := 3, slots := 18, locals := 104 }) [.ref (Z.A 0 0), .int ug, .int uk] (xW G.2.2.2 G.2.1 Z S) (pvx (X_order Z S ug uk).1 (.int (X_order Z S ug uk).2.1) (xW G.2.2.2 G.2.1 Z (X_order Z S ug uk).2.2)) (px (X_order Z S ug uk).1 (xW G.2.2.2 G.2.1 Z S)) := by
  refine FX.go (lv := [(0, .ref (Z.A 0 0)), (1, .int ug), (2, .int uk)]) (by decide) (Nat.le_of_ble_eq_true rfl) rfl (fun p e s m args below meth c A H locs ls Q hx hb hr hts hown hml hlocks hout hK hE hI hA hl hQ => ?_)
  have hown : s.vm.findClass RX3 = some m.cls := hown
  refine lv_iload_n hx hb dX3_order_0 rfl (lv_at hl 1 rfl) ?_
  refine dxS0 (rest := []) hx hb hml hts hown hK hE hI (cX_needGoods G hst Z S ug) kX3_118 ⟨Nat.le_of_ble_eq_true rfl, Nat.le_of_ble_eq_true rfl⟩ hl.1 rfl (Nat.le_of_ble_eq_true rfl) dX3_order_1 ⟨Nat.le_of_ble_eq_true rfl, Nat.le_of_ble_eq_true rfl⟩ (fun E9 ce q9 H locs h9 hI g1 g2 g3 => ?_) (fun t1 H locs hI => ?_)
  · have n9 : ¬ (X_needGoods Z S ug) = none := fun z => by rw [h9] at z; cases z
    have HE : X_order Z S ug uk = (X_needGoods Z S ug, 0, S) := by exact (if_neg n9)
    exact rx_thru hout hlocks hI hA hQ ⟨by rw [HE]; exact h9, rfl⟩ (Nat.le_of_ble_eq_true rfl) (Nat.le_of_ble_eq_true rfl) g1 g2 g3
  · refine lv_iload_n hx hb dX3_order_4 rfl (lv_at hl 2 rfl) ?_
    refine lv_iconst (v := 1) hx hb dX3_order_5 (by decide) ?_
    refine lv_ldc (v := 1000000) hx hb hown (hts _ q533) dX3_order_6 ?_
    refine dxS0 (rest := []) hx hb hml hts hown hK hE hI (cX_needRange G hst Z S uk 1 1000000) kX3_42 ⟨Nat.le_of_ble_eq_true rfl, Nat.le_of_ble_eq_true rfl⟩ hl.1 rfl (Nat.le_of_ble_eq_true rfl) dX3_order_8 ⟨Nat.le_of_ble_eq_true rfl, Nat.le_of_ble_eq_true rfl⟩ (fun E9 ce q9 H locs h9 hI g1 g2 g3 => ?_) (fun t2 H locs hI => ?_)
    · have n9 : ¬ (X_needRange Z S uk 1 1000000) = none := fun z => by rw [h9] at z; cases z
      have HE : X_order Z S ug uk = (X_needRange Z S uk 1 1000000, 0, S) := by exact (if_pos t1).trans ((if_neg n9))
      exact rx_thru hout hlocks hI hA hQ ⟨by rw [HE]; exact h9, rfl⟩ (Nat.le_of_ble_eq_true rfl) (Nat.le_of_ble_eq_true rfl) g1 g2 g3
    · refine lv_aload_n hx hb dX3_order_11 rfl (lv_at hl 0 rfl) ?_
      refine gX3_29 (i := 0) hx hb hts hown hK hI (by decide) dX3_order_12 ?_
      refine lv_iload_n hx hb dX3_order_15 rfl (lv_at hl 1 rfl) ?_
      refine lX_5 (n := 5) hx hb hK hI (by decide) (nG_in t1) dX3_order_16 ?_
      refine lv_iload_n hx hb dX3_order_17 rfl (lv_at hl 2 rfl) ?_
      refine lv_iadd hx hb dX3_order_18 ?_
      refine lv_ldc (v := 10000000) hx hb hown (hts _ q534) dX3_order_19 ?_
      refine lv_icmp_le (tgt := 34) hx hb dX3_order_21 (by decide) (fun c3 => ?_) (fun c3 => ?_)
      · refine lv_aload_n hx hb dX3_order_34 rfl (lv_at hl 0 rfl) ?_
        refine gX3_29 (i := 0) hx hb hts hown hK hI (by decide) dX3_order_35 ?_
        refine lv_iload_n hx hb dX3_order_38 rfl (lv_at hl 1 rfl) ?_
        refine lv_dup2_11 hx hb dX3_order_39 rfl rfl ?_
        refine lX_5 (n := 5) hx hb hK hI (by decide) (nG_in t1) dX3_order_40 ?_
        refine lv_iload_n hx hb dX3_order_41 rfl (lv_at hl 2 rfl) ?_
        refine lv_iadd hx hb dX3_order_42 ?_
        obtain ⟨S4, eS4⟩ : ∃ z : XS, z = xset S 5 5 ug.toNatClampNeg ((S.1 5 5 ug.toNatClampNeg) + uk) := ⟨_, rfl⟩
        refine sX_5 (n := 5) hx hb hK hI (by decide) (nG_in t1) eS4 dX3_order_43 (fun H locs hI => ?_)
        refine lv_aload_n hx hb dX3_order_44 rfl (lv_at hl 0 rfl) ?_
        refine gX3_29 (i := 0) hx hb hts hown hK hI (by decide) dX3_order_45 ?_
        refine lv_iload_n hx hb dX3_order_48 rfl (lv_at hl 1 rfl) ?_
        refine lX_5 (n := 5) hx hb hK hI (by decide) (nG_in t1) dX3_order_49 ?_
        have HE : X_order Z S ug uk = (none, S4.1 5 5 ug.toNatClampNeg, S4) := by subst eS4; exact (if_pos t1).trans ((if_pos t2).trans ((if_pos c3)))
        exact rx_i hx hb hr hlocks hI hA hQ ⟨by rw [HE], by rw [HE], by rw [HE]⟩ (Nat.le_of_ble_eq_true rfl) (Nat.le_of_ble_eq_true rfl) dX3_order_50
      · have HE : X_order Z S ug uk = ((some EISE), 0, S) := by exact (if_pos t1).trans ((if_pos t2).trans ((if_neg c3)))
        exact fx_throw hx hb hst hts hown hE hI hA hQ (by decide +kernel) q199 q9 at_ISE go_ISE (text := "the mine would have ordered too much") (List.mem_of_getElem? (i := 10) rfl) ⟨by rw [HE]; rfl, rfl⟩ (hl.1.trans hml.symm) hout hlocks (Nat.le_of_ble_eq_true rfl) (Nat.le_of_ble_eq_true rfl) (Nat.le_of_ble_eq_true rfl) (Nat.le_of_ble_eq_true rfl) (Nat.le_of_ble_eq_true rfl) (Nat.le_of_ble_eq_true rfl) dX3_order_24 dX3_order_27 dX3_order_28 dX3_order_30 dX3_order_33

def X_told (Z : XZ) (S : XS) (up : Int32) (uk : Int32) : Option String × Int32 :=
  if X_pieceNumbered Z S up = none then
    if X_needRange Z S uk 0 7 = none then
      if uk = 0 then
        (none, S.1 1 up.toNatClampNeg 3)
      else
        if uk = 1 then
          (none, S.1 1 up.toNatClampNeg 4)
        else
          if uk = 2 then
            (none, S.1 1 up.toNatClampNeg 5)
          else
            if uk = 3 then
              (none, S.1 1 up.toNatClampNeg 6)
            else
              if uk = 4 then
                (none, S.1 1 up.toNatClampNeg 7)
              else
                if uk = 5 then
                  (none, S.1 1 up.toNatClampNeg 8)
                else
                  if uk = 6 then
                    (none, S.1 1 up.toNatClampNeg 9)
                  else
                    (none, (S.1 1 up.toNatClampNeg 11) + (S.1 1 up.toNatClampNeg 12))
    else
      (X_needRange Z S uk 0 7, 0)
  else
    (X_pieceNumbered Z S up, 0)
set_option maxHeartbeats 4000000 in
set_option maxRecDepth 100000 in
theorem cX_told (G : GX) (hst : G.1.stackTraces = false) (Z : XZ) (S : XS) (up : Int32) (uk : Int32) (hWZ : WZ Z) : FX G yX3_told cX3_told 4 (some .int) ({ frames := 7, cells := 2, slots := 12, locals := 104 }) [.ref (Z.A 0 0), .int up, .int uk] (xW G.2.2.2 G.2.1 Z S) (pvx (X_told Z S up uk).1 (.int (X_told Z S up uk).2) (xW G.2.2.2 G.2.1 Z S)) (px (X_told Z S up uk).1 (xW G.2.2.2 G.2.1 Z S)) := by
  refine FX.go (lv := [(0, .ref (Z.A 0 0)), (1, .int up), (2, .int uk)]) (by decide) (Nat.le_of_ble_eq_true rfl) rfl (fun p e s m args below meth c A H locs ls Q hx hb hr hts hown hml hlocks hout hK hE hI hA hl hQ => ?_)
  have hown : s.vm.findClass RX3 = some m.cls := hown
  refine lv_aload_n hx hb dX3_told_0 rfl (lv_at hl 0 rfl) ?_
  refine lv_iload_n hx hb dX3_told_1 rfl (lv_at hl 1 rfl) ?_
  refine dxVv (rest := []) hx hb hml hts hown hK hE hI (cX_pieceNumbered G hst Z S up hWZ) kX3_78 ⟨Nat.le_of_ble_eq_true rfl, Nat.le_of_ble_eq_true rfl⟩ (kk := 0) (ii := 0) (xW0 (by decide)) rfl rfl hl.1 rfl (Nat.le_of_ble_eq_true rfl) dX3_told_2 ⟨Nat.le_of_ble_eq_true rfl, Nat.le_of_ble_eq_true rfl⟩ (fun E9 ce q9 H locs h9 hI g1 g2 g3 => ?_) (fun t1 H locs hI => ?_)
  · have n9 : ¬ (X_pieceNumbered Z S up) = none := fun z => by rw [h9] at z; cases z
    have HE : X_told Z S up uk = (X_pieceNumbered Z S up, 0) := by exact (if_neg n9)
    exact rx_thru hout hlocks hI hA hQ ⟨by rw [HE]; exact h9, rfl⟩ (Nat.le_of_ble_eq_true rfl) (Nat.le_of_ble_eq_true rfl) g1 g2 g3
  · refine lv_astore_n (lv' := [(3, .ref (Z.A 1 up.toNatClampNeg)), (0, .ref (Z.A 0 0)), (1, .int up), (2, .int uk)]) hx hb dX3_told_5 rfl hl (by decide) rfl (fun ls hl => ?_)
    refine lv_iload_n hx hb dX3_told_6 rfl (lv_at hl 3 rfl) ?_
    refine lv_iconst (v := 0) hx hb dX3_told_7 (by decide) ?_
    refine lv_bipush (v := 7) hx hb dX3_told_8 (by decide) ?_
    refine dxS0 (rest := []) hx hb hml hts hown hK hE hI (cX_needRange G hst Z S uk 0 7) kX3_42 ⟨Nat.le_of_ble_eq_true rfl, Nat.le_of_ble_eq_true rfl⟩ hl.1 rfl (Nat.le_of_ble_eq_true rfl) dX3_told_10 ⟨Nat.le_of_ble_eq_true rfl, Nat.le_of_ble_eq_true rfl⟩ (fun E9 ce q9 H locs h9 hI g1 g2 g3 => ?_) (fun t2 H locs hI => ?_)
    · have n9 : ¬ (X_needRange Z S uk 0 7) = none := fun z => by rw [h9] at z; cases z
      have HE : X_told Z S up uk = (X_needRange Z S uk 0 7, 0) := by exact (if_pos t1).trans ((if_neg n9))
      exact rx_thru hout hlocks hI hA hQ ⟨by rw [HE]; exact h9, rfl⟩ (Nat.le_of_ble_eq_true rfl) (Nat.le_of_ble_eq_true rfl) g1 g2 g3
    · refine lv_iload_n hx hb dX3_told_13 rfl (lv_at hl 3 rfl) ?_
      by_cases c3 : uk = 0
      · refine lv_tableIn (off := 42) (tgt := 56) hx hb dX3_told_14 (by rw [c3]; decide) (by rw [c3]; decide) (by rw [c3]; rfl) (by decide) ?_
        refine lv_aload_n hx hb dX3_told_56 rfl (lv_at hl 0 rfl) ?_
        refine gX3_164 (i := up.toNatClampNeg) hx hb hts hown hK hI (pN_lt hWZ t1) dX3_told_57 ?_
        have HE : X_told Z S up uk = (none, S.1 1 up.toNatClampNeg 3) := by exact (if_pos t1).trans ((if_pos t2).trans ((if_pos c3)))
        exact rx_i hx hb hr hlocks hI hA hQ ⟨by rw [HE], by rw [HE], rfl⟩ (Nat.le_of_ble_eq_true rfl) (Nat.le_of_ble_eq_true rfl) dX3_told_60
      by_cases c4 : uk = 1
      · refine lv_tableIn (off := 47) (tgt := 61) hx hb dX3_told_14 (by rw [c4]; decide) (by rw [c4]; decide) (by rw [c4]; rfl) (by decide) ?_
        refine lv_aload_n hx hb dX3_told_61 rfl (lv_at hl 0 rfl) ?_
        refine gX3_167 (i := up.toNatClampNeg) hx hb hts hown hK hI (pN_lt hWZ t1) dX3_told_62 ?_
        have HE : X_told Z S up uk = (none, S.1 1 up.toNatClampNeg 4) := by exact (if_pos t1).trans ((if_pos t2).trans ((if_neg c3).trans ((if_pos c4))))
        exact rx_i hx hb hr hlocks hI hA hQ ⟨by rw [HE], by rw [HE], rfl⟩ (Nat.le_of_ble_eq_true rfl) (Nat.le_of_ble_eq_true rfl) dX3_told_65
      by_cases c5 : uk = 2
      · refine lv_tableIn (off := 52) (tgt := 66) hx hb dX3_told_14 (by rw [c5]; decide) (by rw [c5]; decide) (by rw [c5]; rfl) (by decide) ?_
        refine lv_aload_n hx hb dX3_told_66 rfl (lv_at hl 0 rfl) ?_
        refine gX3_88 (i := up.toNatClampNeg) hx hb hts hown hK hI (pN_lt hWZ t1) dX3_told_67 ?_
        have HE : X_told Z S up uk = (none, S.1 1 up.toNatClampNeg 5) := by exact (if_pos t1).trans ((if_pos t2).trans ((if_neg c3).trans ((if_neg c4).trans ((if_pos c5)))))
        exact rx_i hx hb hr hlocks hI hA hQ ⟨by rw [HE], by rw [HE], rfl⟩ (Nat.le_of_ble_eq_true rfl) (Nat.le_of_ble_eq_true rfl) dX3_told_70
      by_cases c6 : uk = 3
      · refine lv_tableIn (off := 57) (tgt := 71) hx hb dX3_told_14 (by rw [c6]; decide) (by rw [c6]; decide) (by rw [c6]; rfl) (by decide) ?_
        refine lv_aload_n hx hb dX3_told_71 rfl (lv_at hl 0 rfl) ?_
        refine gX3_75 (i := up.toNatClampNeg) hx hb hts hown hK hI (pN_lt hWZ t1) dX3_told_72 ?_
        have HE : X_told Z S up uk = (none, S.1 1 up.toNatClampNeg 6) := by exact (if_pos t1).trans ((if_pos t2).trans ((if_neg c3).trans ((if_neg c4).trans ((if_neg c5).trans ((if_pos c6))))))
        exact rx_i hx hb hr hlocks hI hA hQ ⟨by rw [HE], by rw [HE], rfl⟩ (Nat.le_of_ble_eq_true rfl) (Nat.le_of_ble_eq_true rfl) dX3_told_75
      by_cases c7 : uk = 4
      · refine lv_tableIn (off := 62) (tgt := 76) hx hb dX3_told_14 (by rw [c7]; decide) (by rw [c7]; decide) (by rw [c7]; rfl) (by decide) ?_
        refine lv_aload_n hx hb dX3_told_76 rfl (lv_at hl 0 rfl) ?_
        refine gX3_170 (i := up.toNatClampNeg) hx hb hts hown hK hI (pN_lt hWZ t1) dX3_told_77 ?_
        have HE : X_told Z S up uk = (none, S.1 1 up.toNatClampNeg 7) := by exact (if_pos t1).trans ((if_pos t2).trans ((if_neg c3).trans ((if_neg c4).trans ((if_neg c5).trans ((if_neg c6).trans ((if_pos c7)))))))
        exact rx_i hx hb hr hlocks hI hA hQ ⟨by rw [HE], by rw [HE], rfl⟩ (Nat.le_of_ble_eq_true rfl) (Nat.le_of_ble_eq_true rfl) dX3_told_80
      by_cases c8 : uk = 5
      · refine lv_tableIn (off := 67) (tgt := 81) hx hb dX3_told_14 (by rw [c8]; decide) (by rw [c8]; decide) (by rw [c8]; rfl) (by decide) ?_
        refine lv_aload_n hx hb dX3_told_81 rfl (lv_at hl 0 rfl) ?_
        refine gX3_101 (i := up.toNatClampNeg) hx hb hts hown hK hI (pN_lt hWZ t1) dX3_told_82 ?_
        have HE : X_told Z S up uk = (none, S.1 1 up.toNatClampNeg 8) := by exact (if_pos t1).trans ((if_pos t2).trans ((if_neg c3).trans ((if_neg c4).trans ((if_neg c5).trans ((if_neg c6).trans ((if_neg c7).trans ((if_pos c8))))))))
        exact rx_i hx hb hr hlocks hI hA hQ ⟨by rw [HE], by rw [HE], rfl⟩ (Nat.le_of_ble_eq_true rfl) (Nat.le_of_ble_eq_true rfl) dX3_told_85
      by_cases c9 : uk = 6
      · refine lv_tableIn (off := 72) (tgt := 86) hx hb dX3_told_14 (by rw [c9]; decide) (by rw [c9]; decide) (by rw [c9]; rfl) (by decide) ?_
        refine lv_aload_n hx hb dX3_told_86 rfl (lv_at hl 0 rfl) ?_
        refine gX3_104 (i := up.toNatClampNeg) hx hb hts hown hK hI (pN_lt hWZ t1) dX3_told_87 ?_
        have HE : X_told Z S up uk = (none, S.1 1 up.toNatClampNeg 9) := by exact (if_pos t1).trans ((if_pos t2).trans ((if_neg c3).trans ((if_neg c4).trans ((if_neg c5).trans ((if_neg c6).trans ((if_neg c7).trans ((if_neg c8).trans ((if_pos c9)))))))))
        exact rx_i hx hb hr hlocks hI hA hQ ⟨by rw [HE], by rw [HE], rfl⟩ (Nat.le_of_ble_eq_true rfl) (Nat.le_of_ble_eq_true rfl) dX3_told_90
      refine lv_tableOut (tgt := 91) hx hb dX3_told_14 (sw_out7 c3 c4 c5 c6 c7 c8 c9) (by decide) ?_
      refine lv_aload_n hx hb dX3_told_91 rfl (lv_at hl 0 rfl) ?_
      refine gX3_173 (i := up.toNatClampNeg) hx hb hts hown hK hI (pN_lt hWZ t1) dX3_told_92 ?_
      refine lv_aload_n hx hb dX3_told_95 rfl (lv_at hl 0 rfl) ?_
      refine gX3_176 (i := up.toNatClampNeg) hx hb hts hown hK hI (pN_lt hWZ t1) dX3_told_96 ?_
      refine lv_iadd hx hb dX3_told_99 ?_
      have HE : X_told Z S up uk = (none, (S.1 1 up.toNatClampNeg 11) + (S.1 1 up.toNatClampNeg 12)) := by exact (if_pos t1).trans ((if_pos t2).trans ((if_neg c3).trans ((if_neg c4).trans ((if_neg c5).trans ((if_neg c6).trans ((if_neg c7).trans ((if_neg c8).trans ((if_neg c9)))))))))
      exact rx_i hx hb hr hlocks hI hA hQ ⟨by rw [HE], by rw [HE], rfl⟩ (Nat.le_of_ble_eq_true rfl) (Nat.le_of_ble_eq_true rfl) dX3_told_100

def X_thickness (Z : XZ) (S : XS) (up : Int32) (ub : Int32) : Option String × UInt64 :=
  if X_pieceNumbered Z S up = none then
    (none, X_thicknessAs Z S up.toNatClampNeg ub)
  else
    (X_pieceNumbered Z S up, 0)
set_option maxHeartbeats 4000000 in
set_option maxRecDepth 100000 in
theorem cX_thickness (G : GX) (hst : G.1.stackTraces = false) (Z : XZ) (S : XS) (up : Int32) (ub : Int32) (hWZ : WZ Z) : FX G yX3_thickness cX3_thickness 3 (some .double) ({ frames := 7, cells := 1, slots := 6, locals := 103 }) [.ref (Z.A 0 0), .int up, .int ub] (xW G.2.2.2 G.2.1 Z S) (pvx (X_thickness Z S up ub).1 (.double (X_thickness Z S up ub).2) (xW G.2.2.2 G.2.1 Z S)) (px (X_thickness Z S up ub).1 (xW G.2.2.2 G.2.1 Z S)) := by
  refine FX.go (lv := [(0, .ref (Z.A 0 0)), (1, .int up), (2, .int ub)]) (by decide) (Nat.le_of_ble_eq_true rfl) rfl (fun p e s m args below meth c A H locs ls Q hx hb hr hts hown hml hlocks hout hK hE hI hA hl hQ => ?_)
  have hown : s.vm.findClass RX3 = some m.cls := hown
  refine lv_aload_n hx hb dX3_thickness_0 rfl (lv_at hl 0 rfl) ?_
  refine lv_iload_n hx hb dX3_thickness_1 rfl (lv_at hl 1 rfl) ?_
  refine dxVv (rest := []) hx hb hml hts hown hK hE hI (cX_pieceNumbered G hst Z S up hWZ) kX3_78 ⟨Nat.le_of_ble_eq_true rfl, Nat.le_of_ble_eq_true rfl⟩ (kk := 0) (ii := 0) (xW0 (by decide)) rfl rfl hl.1 rfl (Nat.le_of_ble_eq_true rfl) dX3_thickness_2 ⟨Nat.le_of_ble_eq_true rfl, Nat.le_of_ble_eq_true rfl⟩ (fun E9 ce q9 H locs h9 hI g1 g2 g3 => ?_) (fun t1 H locs hI => ?_)
  · have n9 : ¬ (X_pieceNumbered Z S up) = none := fun z => by rw [h9] at z; cases z
    have HE : X_thickness Z S up ub = (X_pieceNumbered Z S up, 0) := by exact (if_neg n9)
    exact rx_thru hout hlocks hI hA hQ ⟨by rw [HE]; exact h9, rfl⟩ (Nat.le_of_ble_eq_true rfl) (Nat.le_of_ble_eq_true rfl) g1 g2 g3
  · refine lv_iload_n hx hb dX3_thickness_5 rfl (lv_at hl 2 rfl) ?_
    refine cVv (rest := []) hx hb hml hts hown hK hE hI (cX_thicknessAs G Z S up.toNatClampNeg ub (pN_lt hWZ t1)) kX3_179 ⟨Nat.le_of_ble_eq_true rfl, Nat.le_of_ble_eq_true rfl⟩ rfl rfl (kk := 1) (ii := up.toNatClampNeg) (xW1 (pN_lt hWZ t1)) rfl rfl hl.1 rfl (Nat.le_of_ble_eq_true rfl) dX3_thickness_6 ⟨Nat.le_of_ble_eq_true rfl, Nat.le_of_ble_eq_true rfl⟩ (fun H locs hI => ?_)
    have HE : X_thickness Z S up ub = (none, X_thicknessAs Z S up.toNatClampNeg ub) := by exact (if_pos t1)
    exact rx_d hx hb hr hlocks hI hA hQ ⟨by rw [HE], by rw [HE], rfl⟩ (Nat.le_of_ble_eq_true rfl) (Nat.le_of_ble_eq_true rfl) dX3_thickness_9

def X_bears (Z : XZ) (S : XS) (up : Int32) (ub : Int32) : Option String × Int32 :=
  if X_pieceNumbered Z S up = none then
    (none, X_bearsAs Z S up.toNatClampNeg ub)
  else
    (X_pieceNumbered Z S up, 0)
set_option maxHeartbeats 4000000 in
set_option maxRecDepth 100000 in
theorem cX_bears (G : GX) (hst : G.1.stackTraces = false) (Z : XZ) (S : XS) (up : Int32) (ub : Int32) (hWZ : WZ Z) : FX G yX3_bears cX3_bears 3 (some .int) ({ frames := 7, cells := 1, slots := 6, locals := 103 }) [.ref (Z.A 0 0), .int up, .int ub] (xW G.2.2.2 G.2.1 Z S) (pvx (X_bears Z S up ub).1 (.int (X_bears Z S up ub).2) (xW G.2.2.2 G.2.1 Z S)) (px (X_bears Z S up ub).1 (xW G.2.2.2 G.2.1 Z S)) := by
  refine FX.go (lv := [(0, .ref (Z.A 0 0)), (1, .int up), (2, .int ub)]) (by decide) (Nat.le_of_ble_eq_true rfl) rfl (fun p e s m args below meth c A H locs ls Q hx hb hr hts hown hml hlocks hout hK hE hI hA hl hQ => ?_)
  have hown : s.vm.findClass RX3 = some m.cls := hown
  refine lv_aload_n hx hb dX3_bears_0 rfl (lv_at hl 0 rfl) ?_
  refine lv_iload_n hx hb dX3_bears_1 rfl (lv_at hl 1 rfl) ?_
  refine dxVv (rest := []) hx hb hml hts hown hK hE hI (cX_pieceNumbered G hst Z S up hWZ) kX3_78 ⟨Nat.le_of_ble_eq_true rfl, Nat.le_of_ble_eq_true rfl⟩ (kk := 0) (ii := 0) (xW0 (by decide)) rfl rfl hl.1 rfl (Nat.le_of_ble_eq_true rfl) dX3_bears_2 ⟨Nat.le_of_ble_eq_true rfl, Nat.le_of_ble_eq_true rfl⟩ (fun E9 ce q9 H locs h9 hI g1 g2 g3 => ?_) (fun t1 H locs hI => ?_)
  · have n9 : ¬ (X_pieceNumbered Z S up) = none := fun z => by rw [h9] at z; cases z
    have HE : X_bears Z S up ub = (X_pieceNumbered Z S up, 0) := by exact (if_neg n9)
    exact rx_thru hout hlocks hI hA hQ ⟨by rw [HE]; exact h9, rfl⟩ (Nat.le_of_ble_eq_true rfl) (Nat.le_of_ble_eq_true rfl) g1 g2 g3
  · refine lv_iload_n hx hb dX3_bears_5 rfl (lv_at hl 2 rfl) ?_
    refine cVv (rest := []) hx hb hml hts hown hK hE hI (cX_bearsAs G Z S up.toNatClampNeg ub (pN_lt hWZ t1)) kX3_183 ⟨Nat.le_of_ble_eq_true rfl, Nat.le_of_ble_eq_true rfl⟩ rfl rfl (kk := 1) (ii := up.toNatClampNeg) (xW1 (pN_lt hWZ t1)) rfl rfl hl.1 rfl (Nat.le_of_ble_eq_true rfl) dX3_bears_6 ⟨Nat.le_of_ble_eq_true rfl, Nat.le_of_ble_eq_true rfl⟩ (fun H locs hI => ?_)
    have HE : X_bears Z S up ub = (none, X_bearsAs Z S up.toNatClampNeg ub) := by exact (if_pos t1)
    exact rx_i hx hb hr hlocks hI hA hQ ⟨by rw [HE], by rw [HE], rfl⟩ (Nat.le_of_ble_eq_true rfl) (Nat.le_of_ble_eq_true rfl) dX3_bears_9

def X_ofVehicle (Z : XZ) (S : XS) (uv : Int32) (uk : Int32) : Option String × Int32 :=
  if X_vehicleNumbered Z S uv = none then
    if X_needRange Z S uk 0 6 = none then
      if uk = 0 then
        (none, S.1 2 uv.toNatClampNeg 3)
      else
        if uk = 1 then
          (none, X_weight Z S uv.toNatClampNeg)
        else
          if uk = 2 then
            let x6 := if (S.2.2 uv.toNatClampNeg) = 0 then 0 else (S.1 3 (S.2.2 uv.toNatClampNeg - 1) 1)
            (none, x6)
          else
            if uk = 3 then
              let x10 := if (S.2.2 uv.toNatClampNeg) = 0 then (-1) else (S.1 3 (S.2.2 uv.toNatClampNeg - 1) 0)
              (none, x10)
            else
              if uk = 4 then
                (none, S.1 2 uv.toNatClampNeg 4)
              else
                if uk = 5 then
                  (none, bI (¬ ((S.1 2 uv.toNatClampNeg 5) = 0)))
                else
                  let x19 := if (S.1 2 uv.toNatClampNeg 3) = 1 then (S.1 2 uv.toNatClampNeg 6) else (-1)
                  (none, x19)
    else
      (X_needRange Z S uk 0 6, 0)
  else
    (X_vehicleNumbered Z S uv, 0)
set_option maxHeartbeats 4000000 in
set_option maxRecDepth 100000 in
theorem cX_ofVehicle (G : GX) (hst : G.1.stackTraces = false) (Z : XZ) (S : XS) (uv : Int32) (uk : Int32) (hWZ : WZ Z) (hC : CW Z S) : FX G yX3_ofVehicle cX3_ofVehicle 4 (some .int) ({ frames := 7, cells := 2, slots := 12, locals := 104 }) [.ref (Z.A 0 0), .int uv, .int uk] (xW G.2.2.2 G.2.1 Z S) (pvx (X_ofVehicle Z S uv uk).1 (.int (X_ofVehicle Z S uv uk).2) (xW G.2.2.2 G.2.1 Z S)) (px (X_ofVehicle Z S uv uk).1 (xW G.2.2.2 G.2.1 Z S)) := by
  refine FX.go (lv := [(0, .ref (Z.A 0 0)), (1, .int uv), (2, .int uk)]) (by decide) (Nat.le_of_ble_eq_true rfl) rfl (fun p e s m args below meth c A H locs ls Q hx hb hr hts hown hml hlocks hout hK hE hI hA hl hQ => ?_)
  have hown : s.vm.findClass RX3 = some m.cls := hown
  refine lv_aload_n hx hb dX3_ofVehicle_0 rfl (lv_at hl 0 rfl) ?_
  refine lv_iload_n hx hb dX3_ofVehicle_1 rfl (lv_at hl 1 rfl) ?_
  refine dxVv (rest := []) hx hb hml hts hown hK hE hI (cX_vehicleNumbered G hst Z S uv hWZ) kX3_114 ⟨Nat.le_of_ble_eq_true rfl, Nat.le_of_ble_eq_true rfl⟩ (kk := 0) (ii := 0) (xW0 (by decide)) rfl rfl hl.1 rfl (Nat.le_of_ble_eq_true rfl) dX3_ofVehicle_2 ⟨Nat.le_of_ble_eq_true rfl, Nat.le_of_ble_eq_true rfl⟩ (fun E9 ce q9 H locs h9 hI g1 g2 g3 => ?_) (fun t1 H locs hI => ?_)
  · have n9 : ¬ (X_vehicleNumbered Z S uv) = none := fun z => by rw [h9] at z; cases z
    have HE : X_ofVehicle Z S uv uk = (X_vehicleNumbered Z S uv, 0) := by exact (if_neg n9)
    exact rx_thru hout hlocks hI hA hQ ⟨by rw [HE]; exact h9, rfl⟩ (Nat.le_of_ble_eq_true rfl) (Nat.le_of_ble_eq_true rfl) g1 g2 g3
  · refine lv_astore_n (lv' := [(3, .ref (Z.A 2 uv.toNatClampNeg)), (0, .ref (Z.A 0 0)), (1, .int uv), (2, .int uk)]) hx hb dX3_ofVehicle_5 rfl hl (by decide) rfl (fun ls hl => ?_)
    refine lv_iload_n hx hb dX3_ofVehicle_6 rfl (lv_at hl 3 rfl) ?_
    refine lv_iconst (v := 0) hx hb dX3_ofVehicle_7 (by decide) ?_
    refine lv_bipush (v := 6) hx hb dX3_ofVehicle_8 (by decide) ?_
    refine dxS0 (rest := []) hx hb hml hts hown hK hE hI (cX_needRange G hst Z S uk 0 6) kX3_42 ⟨Nat.le_of_ble_eq_true rfl, Nat.le_of_ble_eq_true rfl⟩ hl.1 rfl (Nat.le_of_ble_eq_true rfl) dX3_ofVehicle_10 ⟨Nat.le_of_ble_eq_true rfl, Nat.le_of_ble_eq_true rfl⟩ (fun E9 ce q9 H locs h9 hI g1 g2 g3 => ?_) (fun t2 H locs hI => ?_)
    · have n9 : ¬ (X_needRange Z S uk 0 6) = none := fun z => by rw [h9] at z; cases z
      have HE : X_ofVehicle Z S uv uk = (X_needRange Z S uk 0 6, 0) := by exact (if_pos t1).trans ((if_neg n9))
      exact rx_thru hout hlocks hI hA hQ ⟨by rw [HE]; exact h9, rfl⟩ (Nat.le_of_ble_eq_true rfl) (Nat.le_of_ble_eq_true rfl) g1 g2 g3
    · refine lv_iload_n hx hb dX3_ofVehicle_13 rfl (lv_at hl 3 rfl) ?_
      by_cases c3 : uk = 0
      · refine lv_tableIn (off := 38) (tgt := 52) hx hb dX3_ofVehicle_14 (by rw [c3]; decide) (by rw [c3]; decide) (by rw [c3]; rfl) (by decide) ?_
        refine lv_aload_n hx hb dX3_ofVehicle_52 rfl (lv_at hl 0 rfl) ?_
        refine gX3_125 (i := uv.toNatClampNeg) hx hb hts hown hK hI (vN_lt hWZ t1) dX3_ofVehicle_53 ?_
        have HE : X_ofVehicle Z S uv uk = (none, S.1 2 uv.toNatClampNeg 3) := by exact (if_pos t1).trans ((if_pos t2).trans ((if_pos c3)))
        exact rx_i hx hb hr hlocks hI hA hQ ⟨by rw [HE], by rw [HE], rfl⟩ (Nat.le_of_ble_eq_true rfl) (Nat.le_of_ble_eq_true rfl) dX3_ofVehicle_56
      by_cases c4 : uk = 1
      · refine lv_tableIn (off := 43) (tgt := 57) hx hb dX3_ofVehicle_14 (by rw [c4]; decide) (by rw [c4]; decide) (by rw [c4]; rfl) (by decide) ?_
        refine lv_aload_n hx hb dX3_ofVehicle_57 rfl (lv_at hl 0 rfl) ?_
        refine cVv (rest := []) hx hb hml hts hown hK hE hI (cX_weight G Z S uv.toNatClampNeg (vN_lt hWZ t1) hC) kX3_139 ⟨Nat.le_of_ble_eq_true rfl, Nat.le_of_ble_eq_true rfl⟩ rfl rfl (kk := 2) (ii := uv.toNatClampNeg) (xW2 (vN_lt hWZ t1)) rfl rfl hl.1 rfl (Nat.le_of_ble_eq_true rfl) dX3_ofVehicle_58 ⟨Nat.le_of_ble_eq_true rfl, Nat.le_of_ble_eq_true rfl⟩ (fun H locs hI => ?_)
        have HE : X_ofVehicle Z S uv uk = (none, X_weight Z S uv.toNatClampNeg) := by exact (if_pos t1).trans ((if_pos t2).trans ((if_neg c3).trans ((if_pos c4))))
        exact rx_i hx hb hr hlocks hI hA hQ ⟨by rw [HE], by rw [HE], rfl⟩ (Nat.le_of_ble_eq_true rfl) (Nat.le_of_ble_eq_true rfl) dX3_ofVehicle_61
      by_cases c5 : uk = 2
      · refine lv_tableIn (off := 48) (tgt := 62) hx hb dX3_ofVehicle_14 (by rw [c5]; decide) (by rw [c5]; decide) (by rw [c5]; rfl) (by decide) ?_
        refine lv_aload_n hx hb dX3_ofVehicle_62 rfl (lv_at hl 0 rfl) ?_
        refine gX3_128 (i := uv.toNatClampNeg) hx hb hts hown hK hI (vN_lt hWZ t1) dX3_ofVehicle_63 ?_
        have hJ7 : ∀ (x6 : Int32), (x6 = if (S.2.2 uv.toNatClampNeg) = 0 then 0 else (S.1 3 (S.2.2 uv.toNatClampNeg - 1) 1)) → W p G.1 e ({ frames := 7, cells := 2, slots := 12, locals := 104 }) s m args below meth c H locs 2 12 Q (F0 m 80 ls [.int x6]) := by
          intro x6 ex6
          have HE : X_ofVehicle Z S uv uk = (none, x6) := by subst ex6; exact (if_pos t1).trans ((if_pos t2).trans ((if_neg c3).trans ((if_neg c4).trans ((if_pos c5)))))
          exact rx_i hx hb hr hlocks hI hA hQ ⟨by rw [HE], by rw [HE], rfl⟩ (Nat.le_of_ble_eq_true rfl) (Nat.le_of_ble_eq_true rfl) dX3_ofVehicle_80
        refine xb_ifnonnull (tgt := 73) hx hb dX3_ofVehicle_66 (by decide) (fun c8 => ?_) (fun c8 => ?_)
        · refine lv_aload_n hx hb dX3_ofVehicle_73 rfl (lv_at hl 0 rfl) ?_
          refine gX3_128 (i := uv.toNatClampNeg) hx hb hts hown hK hI (vN_lt hWZ t1) dX3_ofVehicle_74 ?_
          refine oV_go0 c8 ?_
          refine gX3_187 (i := S.2.2 uv.toNatClampNeg - 1) hx hb hts hown hK hI (cw_lt hC c8) dX3_ofVehicle_77 ?_
          exact hJ7 (S.1 3 (S.2.2 uv.toNatClampNeg - 1) 1) (by exact (if_neg c8).symm)
        · refine lv_iconst (v := 0) hx hb dX3_ofVehicle_69 (by decide) ?_
          refine lv_goto (tgt := 80) hx hb dX3_ofVehicle_70 (by decide) ?_
          exact hJ7 0 (by exact (if_pos c8).symm)
      by_cases c9 : uk = 3
      · refine lv_tableIn (off := 67) (tgt := 81) hx hb dX3_ofVehicle_14 (by rw [c9]; decide) (by rw [c9]; decide) (by rw [c9]; rfl) (by decide) ?_
        refine lv_aload_n hx hb dX3_ofVehicle_81 rfl (lv_at hl 0 rfl) ?_
        refine gX3_128 (i := uv.toNatClampNeg) hx hb hts hown hK hI (vN_lt hWZ t1) dX3_ofVehicle_82 ?_
        have hJ11 : ∀ (x10 : Int32), (x10 = if (S.2.2 uv.toNatClampNeg) = 0 then (-1) else (S.1 3 (S.2.2 uv.toNatClampNeg - 1) 0)) → W p G.1 e ({ frames := 7, cells := 2, slots := 12, locals := 104 }) s m args below meth c H locs 2 12 Q (F0 m 99 ls [.int x10]) := by
          intro x10 ex10
          have HE : X_ofVehicle Z S uv uk = (none, x10) := by subst ex10; exact (if_pos t1).trans ((if_pos t2).trans ((if_neg c3).trans ((if_neg c4).trans ((if_neg c5).trans ((if_pos c9))))))
          exact rx_i hx hb hr hlocks hI hA hQ ⟨by rw [HE], by rw [HE], rfl⟩ (Nat.le_of_ble_eq_true rfl) (Nat.le_of_ble_eq_true rfl) dX3_ofVehicle_99
        refine xb_ifnonnull (tgt := 92) hx hb dX3_ofVehicle_85 (by decide) (fun c12 => ?_) (fun c12 => ?_)
        · refine lv_aload_n hx hb dX3_ofVehicle_92 rfl (lv_at hl 0 rfl) ?_
          refine gX3_128 (i := uv.toNatClampNeg) hx hb hts hown hK hI (vN_lt hWZ t1) dX3_ofVehicle_93 ?_
          refine oV_go0 c12 ?_
          refine gX3_190 (i := S.2.2 uv.toNatClampNeg - 1) hx hb hts hown hK hI (cw_lt hC c12) dX3_ofVehicle_96 ?_
          exact hJ11 (S.1 3 (S.2.2 uv.toNatClampNeg - 1) 0) (by exact (if_neg c12).symm)
        · refine lv_iconst (v := (-1)) hx hb dX3_ofVehicle_88 (by decide) ?_
          refine lv_goto (tgt := 99) hx hb dX3_ofVehicle_89 (by decide) ?_
          exact hJ11 (-1) (by exact (if_pos c12).symm)
      by_cases c13 : uk = 4
      · refine lv_tableIn (off := 86) (tgt := 100) hx hb dX3_ofVehicle_14 (by rw [c13]; decide) (by rw [c13]; decide) (by rw [c13]; rfl) (by decide) ?_
        refine lv_aload_n hx hb dX3_ofVehicle_100 rfl (lv_at hl 0 rfl) ?_
        refine gX3_193 (i := uv.toNatClampNeg) hx hb hts hown hK hI (vN_lt hWZ t1) dX3_ofVehicle_101 ?_
        have HE : X_ofVehicle Z S uv uk = (none, S.1 2 uv.toNatClampNeg 4) := by exact (if_pos t1).trans ((if_pos t2).trans ((if_neg c3).trans ((if_neg c4).trans ((if_neg c5).trans ((if_neg c9).trans ((if_pos c13)))))))
        exact rx_i hx hb hr hlocks hI hA hQ ⟨by rw [HE], by rw [HE], rfl⟩ (Nat.le_of_ble_eq_true rfl) (Nat.le_of_ble_eq_true rfl) dX3_ofVehicle_104
      by_cases c14 : uk = 5
      · refine lv_tableIn (off := 91) (tgt := 105) hx hb dX3_ofVehicle_14 (by rw [c14]; decide) (by rw [c14]; decide) (by rw [c14]; rfl) (by decide) ?_
        refine lv_aload_n hx hb dX3_ofVehicle_105 rfl (lv_at hl 0 rfl) ?_
        refine gX3_144 (i := uv.toNatClampNeg) hx hb hts hown hK hI (vN_lt hWZ t1) dX3_ofVehicle_106 ?_
        have hJ15 : W p G.1 e ({ frames := 7, cells := 2, slots := 12, locals := 104 }) s m args below meth c H locs 2 12 Q (F0 m 117 ls [.int (bI (¬ ((S.1 2 uv.toNatClampNeg 5) = 0)))]) := by
          have HE : X_ofVehicle Z S uv uk = (none, bI (¬ ((S.1 2 uv.toNatClampNeg 5) = 0))) := by exact (if_pos t1).trans ((if_pos t2).trans ((if_neg c3).trans ((if_neg c4).trans ((if_neg c5).trans ((if_neg c9).trans ((if_neg c13).trans ((if_pos c14))))))))
          exact rx_i hx hb hr hlocks hI hA hQ ⟨by rw [HE], by rw [HE], rfl⟩ (Nat.le_of_ble_eq_true rfl) (Nat.le_of_ble_eq_true rfl) dX3_ofVehicle_117
        refine lv_if_eq (tgt := 116) hx hb dX3_ofVehicle_109 (by decide) (fun c16 => ?_) (fun c16 => ?_)
        · refine lv_iconst (v := 0) hx hb dX3_ofVehicle_116 (by decide) ?_
          have eb17 : (0 : Int32) = bI (¬ ((S.1 2 uv.toNatClampNeg 5) = 0)) := (bI_f (fun k => k c16)).symm
          rw [eb17]
          exact hJ15
        · refine lv_iconst (v := 1) hx hb dX3_ofVehicle_112 (by decide) ?_
          refine lv_goto (tgt := 117) hx hb dX3_ofVehicle_113 (by decide) ?_
          have eb18 : (1 : Int32) = bI (¬ ((S.1 2 uv.toNatClampNeg 5) = 0)) := (bI_t c16).symm
          rw [eb18]
          exact hJ15
      refine lv_tableOut (tgt := 118) hx hb dX3_ofVehicle_14 (sw_out6 c3 c4 c5 c9 c13 c14) (by decide) ?_
      refine lv_aload_n hx hb dX3_ofVehicle_118 rfl (lv_at hl 0 rfl) ?_
      refine gX3_125 (i := uv.toNatClampNeg) hx hb hts hown hK hI (vN_lt hWZ t1) dX3_ofVehicle_119 ?_
      refine lv_iconst (v := 1) hx hb dX3_ofVehicle_122 (by decide) ?_
      have hJ20 : ∀ (x19 : Int32), (x19 = if (S.1 2 uv.toNatClampNeg 3) = 1 then (S.1 2 uv.toNatClampNeg 6) else (-1)) → W p G.1 e ({ frames := 7, cells := 2, slots := 12, locals := 104 }) s m args below meth c H locs 2 12 Q (F0 m 134 ls [.int x19]) := by
        intro x19 ex19
        have HE : X_ofVehicle Z S uv uk = (none, x19) := by subst ex19; exact (if_pos t1).trans ((if_pos t2).trans ((if_neg c3).trans ((if_neg c4).trans ((if_neg c5).trans ((if_neg c9).trans ((if_neg c13).trans ((if_neg c14))))))))
        exact rx_i hx hb hr hlocks hI hA hQ ⟨by rw [HE], by rw [HE], rfl⟩ (Nat.le_of_ble_eq_true rfl) (Nat.le_of_ble_eq_true rfl) dX3_ofVehicle_134
      refine lv_icmp_ne (tgt := 133) hx hb dX3_ofVehicle_123 (by decide) (fun c21 => ?_) (fun c21 => ?_)
      · refine lv_iconst (v := (-1)) hx hb dX3_ofVehicle_133 (by decide) ?_
        exact hJ20 (-1) (by exact (if_neg c21).symm)
      · refine lv_aload_n hx hb dX3_ofVehicle_126 rfl (lv_at hl 0 rfl) ?_
        refine gX3_196 (i := uv.toNatClampNeg) hx hb hts hown hK hI (vN_lt hWZ t1) dX3_ofVehicle_127 ?_
        refine lv_goto (tgt := 134) hx hb dX3_ofVehicle_130 (by decide) ?_
        exact hJ20 (S.1 2 uv.toNatClampNeg 6) (by exact (if_pos c21).symm)

def X_why (Z : XZ) (S : XS) (uv : Int32) : Option String × Int32 :=
  if X_vehicleNumbered Z S uv = none then
    let x2 := if (S.1 2 uv.toNatClampNeg 3) = 2 then (X_whatIsAgainst Z S uv.toNatClampNeg) else (-1)
    (none, x2)
  else
    (X_vehicleNumbered Z S uv, 0)
set_option maxHeartbeats 4000000 in
set_option maxRecDepth 100000 in
theorem cX_why (G : GX) (hst : G.1.stackTraces = false) (Z : XZ) (S : XS) (uv : Int32) (hWZ : WZ Z) (hC : CW Z S) : FX G yX3_why cX3_why 3 (some .int) ({ frames := 7, cells := 1, slots := 6, locals := 110 }) [.ref (Z.A 0 0), .int uv] (xW G.2.2.2 G.2.1 Z S) (pvx (X_why Z S uv).1 (.int (X_why Z S uv).2) (xW G.2.2.2 G.2.1 Z S)) (px (X_why Z S uv).1 (xW G.2.2.2 G.2.1 Z S)) := by
  refine FX.go (lv := [(0, .ref (Z.A 0 0)), (1, .int uv)]) (by decide) (Nat.le_of_ble_eq_true rfl) rfl (fun p e s m args below meth c A H locs ls Q hx hb hr hts hown hml hlocks hout hK hE hI hA hl hQ => ?_)
  have hown : s.vm.findClass RX3 = some m.cls := hown
  refine lv_aload_n hx hb dX3_why_0 rfl (lv_at hl 0 rfl) ?_
  refine lv_iload_n hx hb dX3_why_1 rfl (lv_at hl 1 rfl) ?_
  refine dxVv (rest := []) hx hb hml hts hown hK hE hI (cX_vehicleNumbered G hst Z S uv hWZ) kX3_114 ⟨Nat.le_of_ble_eq_true rfl, Nat.le_of_ble_eq_true rfl⟩ (kk := 0) (ii := 0) (xW0 (by decide)) rfl rfl hl.1 rfl (Nat.le_of_ble_eq_true rfl) dX3_why_2 ⟨Nat.le_of_ble_eq_true rfl, Nat.le_of_ble_eq_true rfl⟩ (fun E9 ce q9 H locs h9 hI g1 g2 g3 => ?_) (fun t1 H locs hI => ?_)
  · have n9 : ¬ (X_vehicleNumbered Z S uv) = none := fun z => by rw [h9] at z; cases z
    have HE : X_why Z S uv = (X_vehicleNumbered Z S uv, 0) := by exact (if_neg n9)
    exact rx_thru hout hlocks hI hA hQ ⟨by rw [HE]; exact h9, rfl⟩ (Nat.le_of_ble_eq_true rfl) (Nat.le_of_ble_eq_true rfl) g1 g2 g3
  · refine lv_astore_n (lv' := [(2, .ref (Z.A 2 uv.toNatClampNeg)), (0, .ref (Z.A 0 0)), (1, .int uv)]) hx hb dX3_why_5 rfl hl (by decide) rfl (fun ls hl => ?_)
    refine lv_aload_n hx hb dX3_why_6 rfl (lv_at hl 0 rfl) ?_
    refine gX3_125 (i := uv.toNatClampNeg) hx hb hts hown hK hI (vN_lt hWZ t1) dX3_why_7 ?_
    refine lv_iconst (v := 2) hx hb dX3_why_10 (by decide) ?_
    have hJ3 : ∀ (x2 : Int32) (H : Heap) (locs : List Loc), (x2 = if (S.1 2 uv.toNatClampNeg 3) = 2 then (X_whatIsAgainst Z S uv.toNatClampNeg) else (-1)) → (fI G.2.2.1 A s.heap (xW G.2.2.2 G.2.1 Z S) H locs) → W p G.1 e ({ frames := 7, cells := 1, slots := 6, locals := 110 }) s m args below meth c H locs 1 6 Q (F0 m 23 ls [.int x2]) := by
      intro x2 H locs ex2 hI
      have HE : X_why Z S uv = (none, x2) := by subst ex2; exact (if_pos t1)
      exact rx_i hx hb hr hlocks hI hA hQ ⟨by rw [HE], by rw [HE], rfl⟩ (Nat.le_of_ble_eq_true rfl) (Nat.le_of_ble_eq_true rfl) dX3_why_23
    refine lv_icmp_ne (tgt := 22) hx hb dX3_why_11 (by decide) (fun c4 => ?_) (fun c4 => ?_)
    · refine lv_iconst (v := (-1)) hx hb dX3_why_22 (by decide) ?_
      exact hJ3 (-1) _ _ (by exact (if_neg c4).symm) hI
    · refine lv_aload_n hx hb dX3_why_14 rfl (lv_at hl 1 rfl) ?_
      refine lv_aload_n hx hb dX3_why_15 rfl (lv_at hl 0 rfl) ?_
      refine cVv (rest := []) hx hb hml hts hown hK hE hI (cX_whatIsAgainst G Z S uv.toNatClampNeg (vN_lt hWZ t1) hWZ hC) kX3_199 ⟨Nat.le_of_ble_eq_true rfl, Nat.le_of_ble_eq_true rfl⟩ rfl rfl (kk := 0) (ii := 0) (xW0 (by decide)) rfl rfl hl.1 rfl (Nat.le_of_ble_eq_true rfl) dX3_why_16 ⟨Nat.le_of_ble_eq_true rfl, Nat.le_of_ble_eq_true rfl⟩ (fun H locs hI => ?_)
      refine lv_goto (tgt := 23) hx hb dX3_why_19 (by decide) ?_
      exact hJ3 (X_whatIsAgainst Z S uv.toNatClampNeg) _ _ (by exact (if_pos c4).symm) hI

def X_speed (Z : XZ) (S : XS) (uv : Int32) (up : Int32) : Option String × Int32 :=
  if X_pieceNumbered Z S up = none then
    if X_vehicleNumbered Z S uv = none then
      (none, X_speedOf Z S up.toNatClampNeg uv.toNatClampNeg)
    else
      (X_vehicleNumbered Z S uv, 0)
  else
    (X_pieceNumbered Z S up, 0)
set_option maxHeartbeats 4000000 in
set_option maxRecDepth 100000 in
theorem cX_speed (G : GX) (hst : G.1.stackTraces = false) (Z : XZ) (S : XS) (uv : Int32) (up : Int32) (hWZ : WZ Z) : FX G yX3_speed cX3_speed 3 (some .int) ({ frames := 7, cells := 2, slots := 12, locals := 103 }) [.ref (Z.A 0 0), .int uv, .int up] (xW G.2.2.2 G.2.1 Z S) (pvx (X_speed Z S uv up).1 (.int (X_speed Z S uv up).2) (xW G.2.2.2 G.2.1 Z S)) (px (X_speed Z S uv up).1 (xW G.2.2.2 G.2.1 Z S)) := by
  refine FX.go (lv := [(0, .ref (Z.A 0 0)), (1, .int uv), (2, .int up)]) (by decide) (Nat.le_of_ble_eq_true rfl) rfl (fun p e s m args below meth c A H locs ls Q hx hb hr hts hown hml hlocks hout hK hE hI hA hl hQ => ?_)
  have hown : s.vm.findClass RX3 = some m.cls := hown
  refine lv_aload_n hx hb dX3_speed_0 rfl (lv_at hl 0 rfl) ?_
  refine lv_iload_n hx hb dX3_speed_1 rfl (lv_at hl 2 rfl) ?_
  refine dxVv (rest := []) hx hb hml hts hown hK hE hI (cX_pieceNumbered G hst Z S up hWZ) kX3_78 ⟨Nat.le_of_ble_eq_true rfl, Nat.le_of_ble_eq_true rfl⟩ (kk := 0) (ii := 0) (xW0 (by decide)) rfl rfl hl.1 rfl (Nat.le_of_ble_eq_true rfl) dX3_speed_2 ⟨Nat.le_of_ble_eq_true rfl, Nat.le_of_ble_eq_true rfl⟩ (fun E9 ce q9 H locs h9 hI g1 g2 g3 => ?_) (fun t1 H locs hI => ?_)
  · have n9 : ¬ (X_pieceNumbered Z S up) = none := fun z => by rw [h9] at z; cases z
    have HE : X_speed Z S uv up = (X_pieceNumbered Z S up, 0) := by exact (if_neg n9)
    exact rx_thru hout hlocks hI hA hQ ⟨by rw [HE]; exact h9, rfl⟩ (Nat.le_of_ble_eq_true rfl) (Nat.le_of_ble_eq_true rfl) g1 g2 g3
  · refine lv_aload_n hx hb dX3_speed_5 rfl (lv_at hl 0 rfl) ?_
    refine lv_iload_n hx hb dX3_speed_6 rfl (lv_at hl 1 rfl) ?_
    refine dxVv (rest := [.ref (Z.A 1 up.toNatClampNeg)]) hx hb hml hts hown hK hE hI (cX_vehicleNumbered G hst Z S uv hWZ) kX3_114 ⟨Nat.le_of_ble_eq_true rfl, Nat.le_of_ble_eq_true rfl⟩ (kk := 0) (ii := 0) (xW0 (by decide)) rfl rfl hl.1 rfl (Nat.le_of_ble_eq_true rfl) dX3_speed_7 ⟨Nat.le_of_ble_eq_true rfl, Nat.le_of_ble_eq_true rfl⟩ (fun E9 ce q9 H locs h9 hI g1 g2 g3 => ?_) (fun t2 H locs hI => ?_)
    · have n9 : ¬ (X_vehicleNumbered Z S uv) = none := fun z => by rw [h9] at z; cases z
      have HE : X_speed Z S uv up = (X_vehicleNumbered Z S uv, 0) := by exact (if_pos t1).trans ((if_neg n9))
      exact rx_thru hout hlocks hI hA hQ ⟨by rw [HE]; exact h9, rfl⟩ (Nat.le_of_ble_eq_true rfl) (Nat.le_of_ble_eq_true rfl) g1 g2 g3
    · refine cVv (rest := []) hx hb hml hts hown hK hE hI (cX_speedOf G Z S up.toNatClampNeg uv.toNatClampNeg (pN_lt hWZ t1) (vN_lt hWZ t2)) kX3_203 ⟨Nat.le_of_ble_eq_true rfl, Nat.le_of_ble_eq_true rfl⟩ rfl rfl (kk := 1) (ii := up.toNatClampNeg) (xW1 (pN_lt hWZ t1)) rfl rfl hl.1 rfl (Nat.le_of_ble_eq_true rfl) dX3_speed_10 ⟨Nat.le_of_ble_eq_true rfl, Nat.le_of_ble_eq_true rfl⟩ (fun H locs hI => ?_)
      have HE : X_speed Z S uv up = (none, X_speedOf Z S up.toNatClampNeg uv.toNatClampNeg) := by exact (if_pos t1).trans ((if_pos t2))
      exact rx_i hx hb hr hlocks hI hA hQ ⟨by rw [HE], by rw [HE], rfl⟩ (Nat.le_of_ble_eq_true rfl) (Nat.le_of_ble_eq_true rfl) dX3_speed_13

def X_minutes (Z : XZ) (S : XS) (uv : Int32) (up : Int32) : Option String × Int32 :=
  if X_pieceNumbered Z S up = none then
    if X_vehicleNumbered Z S uv = none then
      (none, X_minutesOf Z S up.toNatClampNeg uv.toNatClampNeg)
    else
      (X_vehicleNumbered Z S uv, 0)
  else
    (X_pieceNumbered Z S up, 0)
set_option maxHeartbeats 4000000 in
set_option maxRecDepth 100000 in
theorem cX_minutes (G : GX) (hst : G.1.stackTraces = false) (Z : XZ) (S : XS) (uv : Int32) (up : Int32) (hWZ : WZ Z) : FX G yX3_minutes cX3_minutes 3 (some .int) ({ frames := 7, cells := 2, slots := 12, locals := 103 }) [.ref (Z.A 0 0), .int uv, .int up] (xW G.2.2.2 G.2.1 Z S) (pvx (X_minutes Z S uv up).1 (.int (X_minutes Z S uv up).2) (xW G.2.2.2 G.2.1 Z S)) (px (X_minutes Z S uv up).1 (xW G.2.2.2 G.2.1 Z S)) := by
  refine FX.go (lv := [(0, .ref (Z.A 0 0)), (1, .int uv), (2, .int up)]) (by decide) (Nat.le_of_ble_eq_true rfl) rfl (fun p e s m args below meth c A H locs ls Q hx hb hr hts hown hml hlocks hout hK hE hI hA hl hQ => ?_)
  have hown : s.vm.findClass RX3 = some m.cls := hown
  refine lv_aload_n hx hb dX3_minutes_0 rfl (lv_at hl 0 rfl) ?_
  refine lv_iload_n hx hb dX3_minutes_1 rfl (lv_at hl 2 rfl) ?_
  refine dxVv (rest := []) hx hb hml hts hown hK hE hI (cX_pieceNumbered G hst Z S up hWZ) kX3_78 ⟨Nat.le_of_ble_eq_true rfl, Nat.le_of_ble_eq_true rfl⟩ (kk := 0) (ii := 0) (xW0 (by decide)) rfl rfl hl.1 rfl (Nat.le_of_ble_eq_true rfl) dX3_minutes_2 ⟨Nat.le_of_ble_eq_true rfl, Nat.le_of_ble_eq_true rfl⟩ (fun E9 ce q9 H locs h9 hI g1 g2 g3 => ?_) (fun t1 H locs hI => ?_)
  · have n9 : ¬ (X_pieceNumbered Z S up) = none := fun z => by rw [h9] at z; cases z
    have HE : X_minutes Z S uv up = (X_pieceNumbered Z S up, 0) := by exact (if_neg n9)
    exact rx_thru hout hlocks hI hA hQ ⟨by rw [HE]; exact h9, rfl⟩ (Nat.le_of_ble_eq_true rfl) (Nat.le_of_ble_eq_true rfl) g1 g2 g3
  · refine lv_aload_n hx hb dX3_minutes_5 rfl (lv_at hl 0 rfl) ?_
    refine lv_iload_n hx hb dX3_minutes_6 rfl (lv_at hl 1 rfl) ?_
    refine dxVv (rest := [.ref (Z.A 1 up.toNatClampNeg)]) hx hb hml hts hown hK hE hI (cX_vehicleNumbered G hst Z S uv hWZ) kX3_114 ⟨Nat.le_of_ble_eq_true rfl, Nat.le_of_ble_eq_true rfl⟩ (kk := 0) (ii := 0) (xW0 (by decide)) rfl rfl hl.1 rfl (Nat.le_of_ble_eq_true rfl) dX3_minutes_7 ⟨Nat.le_of_ble_eq_true rfl, Nat.le_of_ble_eq_true rfl⟩ (fun E9 ce q9 H locs h9 hI g1 g2 g3 => ?_) (fun t2 H locs hI => ?_)
    · have n9 : ¬ (X_vehicleNumbered Z S uv) = none := fun z => by rw [h9] at z; cases z
      have HE : X_minutes Z S uv up = (X_vehicleNumbered Z S uv, 0) := by exact (if_pos t1).trans ((if_neg n9))
      exact rx_thru hout hlocks hI hA hQ ⟨by rw [HE]; exact h9, rfl⟩ (Nat.le_of_ble_eq_true rfl) (Nat.le_of_ble_eq_true rfl) g1 g2 g3
    · refine cVv (rest := []) hx hb hml hts hown hK hE hI (cX_minutesOf G Z S up.toNatClampNeg uv.toNatClampNeg (pN_lt hWZ t1) (vN_lt hWZ t2)) kX3_206 ⟨Nat.le_of_ble_eq_true rfl, Nat.le_of_ble_eq_true rfl⟩ rfl rfl (kk := 1) (ii := up.toNatClampNeg) (xW1 (pN_lt hWZ t1)) rfl rfl hl.1 rfl (Nat.le_of_ble_eq_true rfl) dX3_minutes_10 ⟨Nat.le_of_ble_eq_true rfl, Nat.le_of_ble_eq_true rfl⟩ (fun H locs hI => ?_)
      have HE : X_minutes Z S uv up = (none, X_minutesOf Z S up.toNatClampNeg uv.toNatClampNeg) := by exact (if_pos t1).trans ((if_pos t2))
      exact rx_i hx hb hr hlocks hI hA hQ ⟨by rw [HE], by rw [HE], rfl⟩ (Nat.le_of_ble_eq_true rfl) (Nat.le_of_ble_eq_true rfl) dX3_minutes_13

def X_kilos (Z : XZ) (S : XS) (ug : Int32) (uk : Int32) : Option String × Int32 :=
  if X_needGoods Z S ug = none then
    if X_needRange Z S uk 0 4 = none then
      if uk = 0 then
        (none, S.1 5 3 ug.toNatClampNeg)
      else
        if uk = 1 then
          (none, S.1 5 4 ug.toNatClampNeg)
        else
          if uk = 2 then
            (none, X_kilosInVehicles Z S ug 0)
          else
            if uk = 3 then
              (none, X_kilosInVehicles Z S ug 1)
            else
              (none, X_kilosMissing Z S ug)
    else
      (X_needRange Z S uk 0 4, 0)
  else
    (X_needGoods Z S ug, 0)
set_option maxHeartbeats 4000000 in
set_option maxRecDepth 100000 in
theorem cX_kilos (G : GX) (hst : G.1.stackTraces = false) (Z : XZ) (S : XS) (ug : Int32) (uk : Int32) (hWZ : WZ Z) (hC : CW Z S) : FX G yX3_kilos cX3_kilos 3 (some .int) ({ frames := 7, cells := 2, slots := 12, locals := 104 }) [.ref (Z.A 0 0), .int ug, .int uk] (xW G.2.2.2 G.2.1 Z S) (pvx (X_kilos Z S ug uk).1 (.int (X_kilos Z S ug uk).2) (xW G.2.2.2 G.2.1 Z S)) (px (X_kilos Z S ug uk).1 (xW G.2.2.2 G.2.1 Z S)) := by
  refine FX.go (lv := [(0, .ref (Z.A 0 0)), (1, .int ug), (2, .int uk)]) (by decide) (Nat.le_of_ble_eq_true rfl) rfl (fun p e s m args below meth c A H locs ls Q hx hb hr hts hown hml hlocks hout hK hE hI hA hl hQ => ?_)
  have hown : s.vm.findClass RX3 = some m.cls := hown
  refine lv_iload_n hx hb dX3_kilos_0 rfl (lv_at hl 1 rfl) ?_
  refine dxS0 (rest := []) hx hb hml hts hown hK hE hI (cX_needGoods G hst Z S ug) kX3_118 ⟨Nat.le_of_ble_eq_true rfl, Nat.le_of_ble_eq_true rfl⟩ hl.1 rfl (Nat.le_of_ble_eq_true rfl) dX3_kilos_1 ⟨Nat.le_of_ble_eq_true rfl, Nat.le_of_ble_eq_true rfl⟩ (fun E9 ce q9 H locs h9 hI g1 g2 g3 => ?_) (fun t1 H locs hI => ?_)
  · have n9 : ¬ (X_needGoods Z S ug) = none := fun z => by rw [h9] at z; cases z
    have HE : X_kilos Z S ug uk = (X_needGoods Z S ug, 0) := by exact (if_neg n9)
    exact rx_thru hout hlocks hI hA hQ ⟨by rw [HE]; exact h9, rfl⟩ (Nat.le_of_ble_eq_true rfl) (Nat.le_of_ble_eq_true rfl) g1 g2 g3
  · refine lv_iload_n hx hb dX3_kilos_4 rfl (lv_at hl 2 rfl) ?_
    refine lv_iconst (v := 0) hx hb dX3_kilos_5 (by decide) ?_
    refine lv_iconst (v := 4) hx hb dX3_kilos_6 (by decide) ?_
    refine dxS0 (rest := []) hx hb hml hts hown hK hE hI (cX_needRange G hst Z S uk 0 4) kX3_42 ⟨Nat.le_of_ble_eq_true rfl, Nat.le_of_ble_eq_true rfl⟩ hl.1 rfl (Nat.le_of_ble_eq_true rfl) dX3_kilos_7 ⟨Nat.le_of_ble_eq_true rfl, Nat.le_of_ble_eq_true rfl⟩ (fun E9 ce q9 H locs h9 hI g1 g2 g3 => ?_) (fun t2 H locs hI => ?_)
    · have n9 : ¬ (X_needRange Z S uk 0 4) = none := fun z => by rw [h9] at z; cases z
      have HE : X_kilos Z S ug uk = (X_needRange Z S uk 0 4, 0) := by exact (if_pos t1).trans ((if_neg n9))
      exact rx_thru hout hlocks hI hA hQ ⟨by rw [HE]; exact h9, rfl⟩ (Nat.le_of_ble_eq_true rfl) (Nat.le_of_ble_eq_true rfl) g1 g2 g3
    · refine lv_iload_n hx hb dX3_kilos_10 rfl (lv_at hl 2 rfl) ?_
      by_cases c3 : uk = 0
      · refine lv_tableIn (off := 29) (tgt := 40) hx hb dX3_kilos_11 (by rw [c3]; decide) (by rw [c3]; decide) (by rw [c3]; rfl) (by decide) ?_
        refine lv_aload_n hx hb dX3_kilos_40 rfl (lv_at hl 0 rfl) ?_
        refine gX3_22 (i := 0) hx hb hts hown hK hI (by decide) dX3_kilos_41 ?_
        refine lv_iload_n hx hb dX3_kilos_44 rfl (lv_at hl 1 rfl) ?_
        refine lX_5 (n := 3) hx hb hK hI (by decide) (nG_in t1) dX3_kilos_45 ?_
        have HE : X_kilos Z S ug uk = (none, S.1 5 3 ug.toNatClampNeg) := by exact (if_pos t1).trans ((if_pos t2).trans ((if_pos c3)))
        exact rx_i hx hb hr hlocks hI hA hQ ⟨by rw [HE], by rw [HE], rfl⟩ (Nat.le_of_ble_eq_true rfl) (Nat.le_of_ble_eq_true rfl) dX3_kilos_46
      by_cases c4 : uk = 1
      · refine lv_tableIn (off := 36) (tgt := 47) hx hb dX3_kilos_11 (by rw [c4]; decide) (by rw [c4]; decide) (by rw [c4]; rfl) (by decide) ?_
        refine lv_aload_n hx hb dX3_kilos_47 rfl (lv_at hl 0 rfl) ?_
        refine gX3_26 (i := 0) hx hb hts hown hK hI (by decide) dX3_kilos_48 ?_
        refine lv_iload_n hx hb dX3_kilos_51 rfl (lv_at hl 1 rfl) ?_
        refine lX_5 (n := 4) hx hb hK hI (by decide) (nG_in t1) dX3_kilos_52 ?_
        have HE : X_kilos Z S ug uk = (none, S.1 5 4 ug.toNatClampNeg) := by exact (if_pos t1).trans ((if_pos t2).trans ((if_neg c3).trans ((if_pos c4))))
        exact rx_i hx hb hr hlocks hI hA hQ ⟨by rw [HE], by rw [HE], rfl⟩ (Nat.le_of_ble_eq_true rfl) (Nat.le_of_ble_eq_true rfl) dX3_kilos_53
      by_cases c5 : uk = 2
      · refine lv_tableIn (off := 43) (tgt := 54) hx hb dX3_kilos_11 (by rw [c5]; decide) (by rw [c5]; decide) (by rw [c5]; rfl) (by decide) ?_
        refine lv_aload_n hx hb dX3_kilos_54 rfl (lv_at hl 0 rfl) ?_
        refine lv_iload_n hx hb dX3_kilos_55 rfl (lv_at hl 1 rfl) ?_
        refine lv_iconst (v := 0) hx hb dX3_kilos_56 (by decide) ?_
        refine cVv (rest := []) hx hb hml hts hown hK hE hI (cX_kilosInVehicles G Z S ug 0 hWZ hC) kX3_212 ⟨Nat.le_of_ble_eq_true rfl, Nat.le_of_ble_eq_true rfl⟩ rfl rfl (kk := 0) (ii := 0) (xW0 (by decide)) rfl rfl hl.1 rfl (Nat.le_of_ble_eq_true rfl) dX3_kilos_57 ⟨Nat.le_of_ble_eq_true rfl, Nat.le_of_ble_eq_true rfl⟩ (fun H locs hI => ?_)
        have HE : X_kilos Z S ug uk = (none, X_kilosInVehicles Z S ug 0) := by exact (if_pos t1).trans ((if_pos t2).trans ((if_neg c3).trans ((if_neg c4).trans ((if_pos c5)))))
        exact rx_i hx hb hr hlocks hI hA hQ ⟨by rw [HE], by rw [HE], rfl⟩ (Nat.le_of_ble_eq_true rfl) (Nat.le_of_ble_eq_true rfl) dX3_kilos_60
      by_cases c6 : uk = 3
      · refine lv_tableIn (off := 50) (tgt := 61) hx hb dX3_kilos_11 (by rw [c6]; decide) (by rw [c6]; decide) (by rw [c6]; rfl) (by decide) ?_
        refine lv_aload_n hx hb dX3_kilos_61 rfl (lv_at hl 0 rfl) ?_
        refine lv_iload_n hx hb dX3_kilos_62 rfl (lv_at hl 1 rfl) ?_
        refine lv_iconst (v := 1) hx hb dX3_kilos_63 (by decide) ?_
        refine cVv (rest := []) hx hb hml hts hown hK hE hI (cX_kilosInVehicles G Z S ug 1 hWZ hC) kX3_212 ⟨Nat.le_of_ble_eq_true rfl, Nat.le_of_ble_eq_true rfl⟩ rfl rfl (kk := 0) (ii := 0) (xW0 (by decide)) rfl rfl hl.1 rfl (Nat.le_of_ble_eq_true rfl) dX3_kilos_64 ⟨Nat.le_of_ble_eq_true rfl, Nat.le_of_ble_eq_true rfl⟩ (fun H locs hI => ?_)
        have HE : X_kilos Z S ug uk = (none, X_kilosInVehicles Z S ug 1) := by exact (if_pos t1).trans ((if_pos t2).trans ((if_neg c3).trans ((if_neg c4).trans ((if_neg c5).trans ((if_pos c6))))))
        exact rx_i hx hb hr hlocks hI hA hQ ⟨by rw [HE], by rw [HE], rfl⟩ (Nat.le_of_ble_eq_true rfl) (Nat.le_of_ble_eq_true rfl) dX3_kilos_67
      refine lv_tableOut (tgt := 68) hx hb dX3_kilos_11 (sw_out4 c3 c4 c5 c6) (by decide) ?_
      refine lv_aload_n hx hb dX3_kilos_68 rfl (lv_at hl 0 rfl) ?_
      refine lv_iload_n hx hb dX3_kilos_69 rfl (lv_at hl 1 rfl) ?_
      refine cVv (rest := []) hx hb hml hts hown hK hE hI (cX_kilosMissing G Z S ug) kX3_216 ⟨Nat.le_of_ble_eq_true rfl, Nat.le_of_ble_eq_true rfl⟩ rfl rfl (kk := 0) (ii := 0) (xW0 (by decide)) rfl rfl hl.1 rfl (Nat.le_of_ble_eq_true rfl) dX3_kilos_70 ⟨Nat.le_of_ble_eq_true rfl, Nat.le_of_ble_eq_true rfl⟩ (fun H locs hI => ?_)
      have HE : X_kilos Z S ug uk = (none, X_kilosMissing Z S ug) := by exact (if_pos t1).trans ((if_pos t2).trans ((if_neg c3).trans ((if_neg c4).trans ((if_neg c5).trans ((if_neg c6))))))
      exact rx_i hx hb hr hlocks hI hA hQ ⟨by rw [HE], by rw [HE], rfl⟩ (Nat.le_of_ble_eq_true rfl) (Nat.le_of_ble_eq_true rfl) dX3_kilos_73

