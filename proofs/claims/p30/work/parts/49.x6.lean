def X_needRange (Z : XZ) (S : XS) (uv : Int32) (ua : Int32) (ub : Int32) : Option String :=
  if uv < ua then
    (some EIAE)
  else
    if uv ≤ ub then
      none
    else
      (some EIAE)
set_option maxHeartbeats 4000000 in
set_option maxRecDepth 100000 in
theorem cX_needRange (G : GX) (hst : G.1.stackTraces = false) (Z : XZ) (S : XS) (uv : Int32) (ua : Int32) (ub : Int32) : FX G yX3_needRange cX3_needRange 3 none ({ frames := 6, cells := 1, slots := 6, locals := 82 }) [.int uv, .int ua, .int ub] (xW G.2.2.2 G.2.1 Z S) (p0x (X_needRange Z S uv ua ub) (xW G.2.2.2 G.2.1 Z S)) (px (X_needRange Z S uv ua ub) (xW G.2.2.2 G.2.1 Z S)) := by
  refine FX.go (lv := [(0, .int uv), (1, .int ua), (2, .int ub)]) (by decide) (Nat.le_of_ble_eq_true rfl) rfl (fun p e s m args below meth c A H locs ls Q hx hb hr hts hown hml hlocks hout hK hE hI hA hl hQ => ?_)
  have hown : s.vm.findClass RX3 = some m.cls := hown
  refine lv_iload_n hx hb dX3_needRange_0 rfl (lv_at hl 0 rfl) ?_
  refine lv_iload_n hx hb dX3_needRange_1 rfl (lv_at hl 1 rfl) ?_
  refine lv_icmp_lt (tgt := 10) hx hb dX3_needRange_2 (by decide) (fun c1 => ?_) (fun c1 => ?_)
  · have HE : X_needRange Z S uv ua ub = (some EIAE) := by exact (if_pos c1)
    exact fx_throw hx hb hst hts hown hE hI hA hQ (by decide +kernel) q112 q8 at_IAE go_IAE (text := "a value is out of range") (List.mem_of_getElem? (i := 0) rfl) ⟨by rw [HE]; rfl, rfl⟩ (hl.1.trans hml.symm) hout hlocks (Nat.le_of_ble_eq_true rfl) (Nat.le_of_ble_eq_true rfl) (Nat.le_of_ble_eq_true rfl) (Nat.le_of_ble_eq_true rfl) (Nat.le_of_ble_eq_true rfl) (Nat.le_of_ble_eq_true rfl) dX3_needRange_10 dX3_needRange_13 dX3_needRange_14 dX3_needRange_16 dX3_needRange_19
  · refine lv_iload_n hx hb dX3_needRange_5 rfl (lv_at hl 0 rfl) ?_
    refine lv_iload_n hx hb dX3_needRange_6 rfl (lv_at hl 2 rfl) ?_
    refine lv_icmp_le (tgt := 20) hx hb dX3_needRange_7 (by decide) (fun c2 => ?_) (fun c2 => ?_)
    · have HE : X_needRange Z S uv ua ub = none := by exact (if_neg c1).trans ((if_pos c2))
      exact rx_v hx hb hr hlocks hI hA hQ ⟨by rw [HE], rfl, rfl⟩ (Nat.le_of_ble_eq_true rfl) (Nat.le_of_ble_eq_true rfl) dX3_needRange_20
    · have HE : X_needRange Z S uv ua ub = (some EIAE) := by exact (if_neg c1).trans ((if_neg c2))
      exact fx_throw hx hb hst hts hown hE hI hA hQ (by decide +kernel) q112 q8 at_IAE go_IAE (text := "a value is out of range") (List.mem_of_getElem? (i := 0) rfl) ⟨by rw [HE]; rfl, rfl⟩ (hl.1.trans hml.symm) hout hlocks (Nat.le_of_ble_eq_true rfl) (Nat.le_of_ble_eq_true rfl) (Nat.le_of_ble_eq_true rfl) (Nat.le_of_ble_eq_true rfl) (Nat.le_of_ble_eq_true rfl) (Nat.le_of_ble_eq_true rfl) dX3_needRange_10 dX3_needRange_13 dX3_needRange_14 dX3_needRange_16 dX3_needRange_19

def X_needGoods (Z : XZ) (S : XS) (ug : Int32) : Option String :=
  if ug < 0 then
    (some EIOB)
  else
    if ug < 3 then
      none
    else
      (some EIOB)
set_option maxHeartbeats 4000000 in
set_option maxRecDepth 100000 in
theorem cX_needGoods (G : GX) (hst : G.1.stackTraces = false) (Z : XZ) (S : XS) (ug : Int32) : FX G yX3_needGoods cX3_needGoods 1 none ({ frames := 6, cells := 1, slots := 6, locals := 82 }) [.int ug] (xW G.2.2.2 G.2.1 Z S) (p0x (X_needGoods Z S ug) (xW G.2.2.2 G.2.1 Z S)) (px (X_needGoods Z S ug) (xW G.2.2.2 G.2.1 Z S)) := by
  refine FX.go (lv := [(0, .int ug)]) (by decide) (Nat.le_of_ble_eq_true rfl) rfl (fun p e s m args below meth c A H locs ls Q hx hb hr hts hown hml hlocks hout hK hE hI hA hl hQ => ?_)
  have hown : s.vm.findClass RX3 = some m.cls := hown
  refine lv_iload_n hx hb dX3_needGoods_0 rfl (lv_at hl 0 rfl) ?_
  refine lv_if_lt (tgt := 9) hx hb dX3_needGoods_1 (by decide) (fun c1 => ?_) (fun c1 => ?_)
  · have HE : X_needGoods Z S ug = (some EIOB) := by exact (if_pos c1)
    exact fx_throw hx hb hst hts hown hE hI hA hQ (by decide +kernel) q376 q17 at_IOB go_IOB (text := "there are no such goods") (List.mem_of_getElem? (i := 6) rfl) ⟨by rw [HE]; rfl, rfl⟩ (hl.1.trans hml.symm) hout hlocks (Nat.le_of_ble_eq_true rfl) (Nat.le_of_ble_eq_true rfl) (Nat.le_of_ble_eq_true rfl) (Nat.le_of_ble_eq_true rfl) (Nat.le_of_ble_eq_true rfl) (Nat.le_of_ble_eq_true rfl) dX3_needGoods_9 dX3_needGoods_12 dX3_needGoods_13 dX3_needGoods_15 dX3_needGoods_18
  · refine lv_iload_n hx hb dX3_needGoods_4 rfl (lv_at hl 0 rfl) ?_
    refine lv_iconst (v := 3) hx hb dX3_needGoods_5 (by decide) ?_
    refine lv_icmp_lt (tgt := 19) hx hb dX3_needGoods_6 (by decide) (fun c2 => ?_) (fun c2 => ?_)
    · have HE : X_needGoods Z S ug = none := by exact (if_neg c1).trans ((if_pos c2))
      exact rx_v hx hb hr hlocks hI hA hQ ⟨by rw [HE], rfl, rfl⟩ (Nat.le_of_ble_eq_true rfl) (Nat.le_of_ble_eq_true rfl) dX3_needGoods_19
    · have HE : X_needGoods Z S ug = (some EIOB) := by exact (if_neg c1).trans ((if_neg c2))
      exact fx_throw hx hb hst hts hown hE hI hA hQ (by decide +kernel) q376 q17 at_IOB go_IOB (text := "there are no such goods") (List.mem_of_getElem? (i := 6) rfl) ⟨by rw [HE]; rfl, rfl⟩ (hl.1.trans hml.symm) hout hlocks (Nat.le_of_ble_eq_true rfl) (Nat.le_of_ble_eq_true rfl) (Nat.le_of_ble_eq_true rfl) (Nat.le_of_ble_eq_true rfl) (Nat.le_of_ble_eq_true rfl) (Nat.le_of_ble_eq_true rfl) dX3_needGoods_9 dX3_needGoods_12 dX3_needGoods_13 dX3_needGoods_15 dX3_needGoods_18

def X_pieceNumbered (Z : XZ) (S : XS) (up : Int32) : Option String :=
  if up < 0 then
    (some EIOB)
  else
    if up < (nI (Z.N 0)) then
      none
    else
      (some EIOB)
set_option maxHeartbeats 4000000 in
set_option maxRecDepth 100000 in
theorem cX_pieceNumbered (G : GX) (hst : G.1.stackTraces = false) (Z : XZ) (S : XS) (up : Int32) (hWZ : WZ Z) : FX G yX3_pieceNumbered cX3_pieceNumbered 2 (some (.object "Icehighway$Piece")) ({ frames := 6, cells := 1, slots := 6, locals := 82 }) [.ref (Z.A 0 0), .int up] (xW G.2.2.2 G.2.1 Z S) (pvx (X_pieceNumbered Z S up) (.ref (Z.A 1 up.toNatClampNeg)) (xW G.2.2.2 G.2.1 Z S)) (px (X_pieceNumbered Z S up) (xW G.2.2.2 G.2.1 Z S)) := by
  refine FX.go (lv := [(0, .ref (Z.A 0 0)), (1, .int up)]) (by decide) (Nat.le_of_ble_eq_true rfl) rfl (fun p e s m args below meth c A H locs ls Q hx hb hr hts hown hml hlocks hout hK hE hI hA hl hQ => ?_)
  have hown : s.vm.findClass RX3 = some m.cls := hown
  refine lv_iload_n hx hb dX3_pieceNumbered_0 rfl (lv_at hl 1 rfl) ?_
  refine lv_if_lt (tgt := 17) hx hb dX3_pieceNumbered_1 (by decide) (fun c1 => ?_) (fun c1 => ?_)
  · have HE : X_pieceNumbered Z S up = (some EIOB) := by exact (if_pos c1)
    exact fx_throw hx hb hst hts hown hE hI hA hQ (by decide +kernel) q376 q17 at_IOB go_IOB (text := "there is no such piece") (List.mem_of_getElem? (i := 2) rfl) ⟨by rw [HE]; rfl, rfl⟩ (hl.1.trans hml.symm) hout hlocks (Nat.le_of_ble_eq_true rfl) (Nat.le_of_ble_eq_true rfl) (Nat.le_of_ble_eq_true rfl) (Nat.le_of_ble_eq_true rfl) (Nat.le_of_ble_eq_true rfl) (Nat.le_of_ble_eq_true rfl) dX3_pieceNumbered_17 dX3_pieceNumbered_20 dX3_pieceNumbered_21 dX3_pieceNumbered_23 dX3_pieceNumbered_26
  · refine lv_iload_n hx hb dX3_pieceNumbered_4 rfl (lv_at hl 1 rfl) ?_
    refine lv_aload_n hx hb dX3_pieceNumbered_5 rfl (lv_at hl 0 rfl) ?_
    refine gX3_10 (i := 0) hx hb hts hown hK hI (by decide) dX3_pieceNumbered_6 ?_
    refine cFv (rest := [.int up]) hx hb hml hts hown hK hE hI (cL_size G Z S 0 (by decide)) kF_46 ⟨Nat.le_of_ble_eq_true rfl, Nat.le_of_ble_eq_true rfl⟩ rfl rfl (kk := 6) (ii := 0) (xW6 (by decide)) rfl rfl hl.1 rfl (Nat.le_of_ble_eq_true rfl) dX3_pieceNumbered_9 ⟨Nat.le_of_ble_eq_true rfl, Nat.le_of_ble_eq_true rfl⟩ (fun H locs hI => ?_)
    refine lv_icmp_lt (tgt := 27) hx hb dX3_pieceNumbered_14 (by decide) (fun c2 => ?_) (fun c2 => ?_)
    · refine lv_aload_n hx hb dX3_pieceNumbered_27 rfl (lv_at hl 0 rfl) ?_
      refine gX3_10 (i := 0) hx hb hts hown hK hI (by decide) dX3_pieceNumbered_28 ?_
      refine lv_iload_n hx hb dX3_pieceNumbered_31 rfl (lv_at hl 1 rfl) ?_
      refine cFv (rest := []) hx hb hml hts hown hK hE hI (cL_get G Z S 0 up (by decide) (WZ.P hWZ 0 (by decide)) (lin_of hWZ.n0 c1 c2)) kF_71 ⟨Nat.le_of_ble_eq_true rfl, Nat.le_of_ble_eq_true rfl⟩ rfl rfl (kk := 6) (ii := 0) (xW6 (by decide)) rfl rfl hl.1 rfl (Nat.le_of_ble_eq_true rfl) dX3_pieceNumbered_32 ⟨Nat.le_of_ble_eq_true rfl, Nat.le_of_ble_eq_true rfl⟩ (fun H locs hI => ?_)
      refine va_castE hx hb hown (hts _ q215) (fx_recv hK hI.1 (xW1 (wz_lt0 hWZ (lin_of hWZ.n0 c1 c2))) (q := (RX1, TX1, 16)) rfl) dX3_pieceNumbered_37 ?_
      have HE : X_pieceNumbered Z S up = none := by exact (if_neg c1).trans ((if_pos c2))
      exact rx_a hx hb hr (Or.inl ⟨_, rfl⟩) hlocks (Or.inr ⟨_, rfl⟩) hI hA hQ ⟨by rw [HE], rfl, rfl⟩ (Nat.le_of_ble_eq_true rfl) (Nat.le_of_ble_eq_true rfl) dX3_pieceNumbered_40
    · have HE : X_pieceNumbered Z S up = (some EIOB) := by exact (if_neg c1).trans ((if_neg c2))
      exact fx_throw hx hb hst hts hown hE hI hA hQ (by decide +kernel) q376 q17 at_IOB go_IOB (text := "there is no such piece") (List.mem_of_getElem? (i := 2) rfl) ⟨by rw [HE]; rfl, rfl⟩ (hl.1.trans hml.symm) hout hlocks (Nat.le_of_ble_eq_true rfl) (Nat.le_of_ble_eq_true rfl) (Nat.le_of_ble_eq_true rfl) (Nat.le_of_ble_eq_true rfl) (Nat.le_of_ble_eq_true rfl) (Nat.le_of_ble_eq_true rfl) dX3_pieceNumbered_17 dX3_pieceNumbered_20 dX3_pieceNumbered_21 dX3_pieceNumbered_23 dX3_pieceNumbered_26

theorem pN_lt {Z : XZ} {S : XS} {x : Int32} (hWZ : WZ Z) (h : X_pieceNumbered Z S x = none) : x.toNatClampNeg < Z.O 1 := by
  unfold X_pieceNumbered at h
  split at h
  · cases h
  · rename_i h1
    split at h
    · rename_i h2
      exact wz_lt0 hWZ (lin_of hWZ.n0 h1 h2)
    · cases h
def X_vehicleNumbered (Z : XZ) (S : XS) (uv : Int32) : Option String :=
  if uv < 0 then
    (some EIOB)
  else
    if uv < (nI (Z.N 1)) then
      none
    else
      (some EIOB)
set_option maxHeartbeats 4000000 in
set_option maxRecDepth 100000 in
theorem cX_vehicleNumbered (G : GX) (hst : G.1.stackTraces = false) (Z : XZ) (S : XS) (uv : Int32) (hWZ : WZ Z) : FX G yX3_vehicleNumbered cX3_vehicleNumbered 2 (some (.object "Icehighway$Vehicle")) ({ frames := 6, cells := 1, slots := 6, locals := 82 }) [.ref (Z.A 0 0), .int uv] (xW G.2.2.2 G.2.1 Z S) (pvx (X_vehicleNumbered Z S uv) (.ref (Z.A 2 uv.toNatClampNeg)) (xW G.2.2.2 G.2.1 Z S)) (px (X_vehicleNumbered Z S uv) (xW G.2.2.2 G.2.1 Z S)) := by
  refine FX.go (lv := [(0, .ref (Z.A 0 0)), (1, .int uv)]) (by decide) (Nat.le_of_ble_eq_true rfl) rfl (fun p e s m args below meth c A H locs ls Q hx hb hr hts hown hml hlocks hout hK hE hI hA hl hQ => ?_)
  have hown : s.vm.findClass RX3 = some m.cls := hown
  refine lv_iload_n hx hb dX3_vehicleNumbered_0 rfl (lv_at hl 1 rfl) ?_
  refine lv_if_lt (tgt := 17) hx hb dX3_vehicleNumbered_1 (by decide) (fun c1 => ?_) (fun c1 => ?_)
  · have HE : X_vehicleNumbered Z S uv = (some EIOB) := by exact (if_pos c1)
    exact fx_throw hx hb hst hts hown hE hI hA hQ (by decide +kernel) q376 q17 at_IOB go_IOB (text := "there is no such vehicle") (List.mem_of_getElem? (i := 5) rfl) ⟨by rw [HE]; rfl, rfl⟩ (hl.1.trans hml.symm) hout hlocks (Nat.le_of_ble_eq_true rfl) (Nat.le_of_ble_eq_true rfl) (Nat.le_of_ble_eq_true rfl) (Nat.le_of_ble_eq_true rfl) (Nat.le_of_ble_eq_true rfl) (Nat.le_of_ble_eq_true rfl) dX3_vehicleNumbered_17 dX3_vehicleNumbered_20 dX3_vehicleNumbered_21 dX3_vehicleNumbered_23 dX3_vehicleNumbered_26
  · refine lv_iload_n hx hb dX3_vehicleNumbered_4 rfl (lv_at hl 1 rfl) ?_
    refine lv_aload_n hx hb dX3_vehicleNumbered_5 rfl (lv_at hl 0 rfl) ?_
    refine gX3_16 (i := 0) hx hb hts hown hK hI (by decide) dX3_vehicleNumbered_6 ?_
    refine cFv (rest := [.int uv]) hx hb hml hts hown hK hE hI (cL_size G Z S 1 (by decide)) kF_46 ⟨Nat.le_of_ble_eq_true rfl, Nat.le_of_ble_eq_true rfl⟩ rfl rfl (kk := 6) (ii := 1) (xW6 (by decide)) rfl rfl hl.1 rfl (Nat.le_of_ble_eq_true rfl) dX3_vehicleNumbered_9 ⟨Nat.le_of_ble_eq_true rfl, Nat.le_of_ble_eq_true rfl⟩ (fun H locs hI => ?_)
    refine lv_icmp_lt (tgt := 27) hx hb dX3_vehicleNumbered_14 (by decide) (fun c2 => ?_) (fun c2 => ?_)
    · refine lv_aload_n hx hb dX3_vehicleNumbered_27 rfl (lv_at hl 0 rfl) ?_
      refine gX3_16 (i := 0) hx hb hts hown hK hI (by decide) dX3_vehicleNumbered_28 ?_
      refine lv_iload_n hx hb dX3_vehicleNumbered_31 rfl (lv_at hl 1 rfl) ?_
      refine cFv (rest := []) hx hb hml hts hown hK hE hI (cL_get G Z S 1 uv (by decide) (WZ.P hWZ 1 (by decide)) (lin_of hWZ.n1 c1 c2)) kF_71 ⟨Nat.le_of_ble_eq_true rfl, Nat.le_of_ble_eq_true rfl⟩ rfl rfl (kk := 6) (ii := 1) (xW6 (by decide)) rfl rfl hl.1 rfl (Nat.le_of_ble_eq_true rfl) dX3_vehicleNumbered_32 ⟨Nat.le_of_ble_eq_true rfl, Nat.le_of_ble_eq_true rfl⟩ (fun H locs hI => ?_)
      refine va_castE hx hb hown (hts _ q434) (fx_recv hK hI.1 (xW2 (wz_lt1 hWZ (lin_of hWZ.n1 c1 c2))) (q := (RX2, TX2, 8)) rfl) dX3_vehicleNumbered_37 ?_
      have HE : X_vehicleNumbered Z S uv = none := by exact (if_neg c1).trans ((if_pos c2))
      exact rx_a hx hb hr (Or.inl ⟨_, rfl⟩) hlocks (Or.inr ⟨_, rfl⟩) hI hA hQ ⟨by rw [HE], rfl, rfl⟩ (Nat.le_of_ble_eq_true rfl) (Nat.le_of_ble_eq_true rfl) dX3_vehicleNumbered_40
    · have HE : X_vehicleNumbered Z S uv = (some EIOB) := by exact (if_neg c1).trans ((if_neg c2))
      exact fx_throw hx hb hst hts hown hE hI hA hQ (by decide +kernel) q376 q17 at_IOB go_IOB (text := "there is no such vehicle") (List.mem_of_getElem? (i := 5) rfl) ⟨by rw [HE]; rfl, rfl⟩ (hl.1.trans hml.symm) hout hlocks (Nat.le_of_ble_eq_true rfl) (Nat.le_of_ble_eq_true rfl) (Nat.le_of_ble_eq_true rfl) (Nat.le_of_ble_eq_true rfl) (Nat.le_of_ble_eq_true rfl) (Nat.le_of_ble_eq_true rfl) dX3_vehicleNumbered_17 dX3_vehicleNumbered_20 dX3_vehicleNumbered_21 dX3_vehicleNumbered_23 dX3_vehicleNumbered_26

theorem vN_lt {Z : XZ} {S : XS} {x : Int32} (hWZ : WZ Z) (h : X_vehicleNumbered Z S x = none) : x.toNatClampNeg < Z.O 2 := by
  unfold X_vehicleNumbered at h
  split at h
  · cases h
  · rename_i h1
    split at h
    · rename_i h2
      exact wz_lt1 hWZ (lin_of hWZ.n1 h1 h2)
    · cases h
