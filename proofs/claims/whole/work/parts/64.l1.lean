def cvI (v : Value) : Int64 := match v with
  | .int y => y.toInt64
  | _ => 0
def cvZ (v : Value) : Int64 := match v with
  | .int y => if y = 0 then 0 else 1
  | _ => 0
theorem cvZ_0 {y : Int32} (h : y = 0) : cvZ (.int y) = 0 := if_pos h
theorem cvZ_1 {y : Int32} (h : ¬ y = 0) : cvZ (.int y) = 1 := if_neg h
def cvD (v : Value) : UInt64 := match v with
  | .double y => y
  | _ => 0
def cdL (a b : String) (E : String) : Int32 := if E = a then 1 else if E = b then 2 else 3
theorem cdL_1 {a b : String} : cdL a b a = 1 := if_pos rfl
theorem cdL_2 {a b : String} (h : ¬ b = a) : cdL a b b = 2 := (if_neg h).trans (if_pos rfl)
theorem cdL_3 {a b c : String} (h1 : ¬ c = a) (h2 : ¬ c = b) : cdL a b c = 3 := (if_neg h1).trans (if_neg h2)
theorem tE_needRange {Z : XZ} {S : XS} {x a b : Int32} {E : String} (h : X_needRange Z S x a b = some E) : E = EIAE := by
  unfold X_needRange at h
  (repeat' split at h) <;> first | (cases h; rfl) | cases h
theorem tE_needGoods {Z : XZ} {S : XS} {x : Int32} {E : String} (h : X_needGoods Z S x = some E) : E = EIOB := by
  unfold X_needGoods at h
  (repeat' split at h) <;> first | (cases h; rfl) | cases h
theorem tE_pieceNumbered {Z : XZ} {S : XS} {x : Int32} {E : String} (h : X_pieceNumbered Z S x = some E) : E = EIOB := by
  unfold X_pieceNumbered at h
  (repeat' split at h) <;> first | (cases h; rfl) | cases h
theorem tE_vehicleNumbered {Z : XZ} {S : XS} {x : Int32} {E : String} (h : X_vehicleNumbered Z S x = some E) : E = EIOB := by
  unfold X_vehicleNumbered at h
  (repeat' split at h) <;> first | (cases h; rfl) | cases h
theorem kH_weather : CkH "IcehighwayLaw" 111 yL_weather cL_weather 4 (some .int) [(0, 9, 12, 13)] 3 := ⟨q344, q342, q343, q0, by decide +kernel⟩
theorem kLX_17 : CkV "IcehighwayLaw" 17 yX3_weather cX3_weather 3 (some .int) 1 := ⟨q348, q345, q346, q347, q1, by decide +kernel⟩
set_option maxHeartbeats 4000000 in
theorem tE_weather {Z : XZ} {S : XS} {uk : Int32} {E : String} (h : (X_weather Z S uk).1 = some E) : E = EIAE := by
  unfold X_weather at h
  try dsimp only at h
  (repeat' split at h) <;> first | exact absurd (show (none : Option String) = some E from h) (fun z => nomatch z) | exact (Option.some.inj h).symm | exact tE_needRange (Z := Z) (S := S) h
set_option maxHeartbeats 4000000 in
set_option maxRecDepth 100000 in
theorem cL_weatherw (G : GX) (hst : G.1.stackTraces = false) (Z : XZ) (S : XS) (b : Nat) (f : Nat → Int64) (uk : Int32) : FH G yL_weather cL_weather 4 (some .int) [(0, 9, 12, 13)] { frames := 8, cells := 1, slots := 6, locals := 126 } [.ref (Z.A 0 0), .int uk, .ref b] (jn (xW G.2.2.2 G.2.1 Z S) (oW G.2.2.2 b f)) (poL G.2.2.2 (xW G.2.2.2 G.2.1 Z S) b f cvI (pvx (X_weather Z S uk).1 (.int (X_weather Z S uk).2.1) (xW G.2.2.2 G.2.1 Z (X_weather Z S uk).2.2)) (px (X_weather Z S uk).1 (xW G.2.2.2 G.2.1 Z S)) (cdL EIAE "")) := by
  refine FH.go (lv := [(0, .ref (Z.A 0 0)), (1, .int uk), (2, .ref b)]) (by decide) (Nat.le_of_ble_eq_true rfl) rfl (fun p e s m args below meth c A H locs ls Q hx hb hr hts hown hml hlocks htab hK hE hI hA hl hQ => ?_)
  have hown : s.vm.findClass "IcehighwayLaw" = some m.cls := hown
  refine lv_aload_n hx hb dL_weather_0 rfl (lv_at hl 2 rfl) ?_
  refine lv_iconst (v := 0) hx hb dL_weather_1 (by decide) ?_
  refine lv_aload_n hx hb dL_weather_2 rfl (lv_at hl 0 rfl) ?_
  refine lv_iload_n hx hb dL_weather_3 rfl (lv_at hl 1 rfl) ?_
  refine jx_xcallV (rest := [.int 0, .ref b]) (as := [.int uk]) hx hb hml hts hown hK hE Dj_oW hI (cX_weather G hst Z S uk) kLX_17 ⟨(Nat.le_of_ble_eq_true rfl), (Nat.le_of_ble_eq_true rfl)⟩ (kk := 0) (ii := 0) (xW0 (by decide)) rfl rfl hl.1 (Nat.le_of_ble_eq_true rfl) dL_weather_4 ⟨(Nat.le_of_ble_eq_true rfl), (Nat.le_of_ble_eq_true rfl)⟩ (fun E ce q9 w' H locs hp hI g1 g2 g3 => ?_) (fun v w' H locs hp hI => ?_)
  · obtain ⟨hpT, rfl⟩ := hp
    have hE9 := tE_weather hpT
    subst hE9
    refine jx_catch hts hown hE htab [] (0, 9, 12, 13) [] rfl (fun z hz => by cases hz) (by decide) (by decide) q103 q114 g1 g2 g3 ?_
    refine lv_astore_n (lv' := [(3, .ref q9), (0, .ref (Z.A 0 0)), (1, .int uk), (2, .ref b)]) hx hb dL_weather_12 rfl hl (by decide) rfl (fun ls hl => ?_)
    refine lv_iconst (v := 1) hx hb dL_weather_13 (by decide) ?_
    exact rx_i hx hb hr hlocks hI hA hQ (Or.inr ⟨EIAE, ⟨hpT, rfl⟩, congrArg (fun z => some (Value.int z)) cdL_1.symm, rfl⟩) (Nat.le_of_ble_eq_true rfl) (Nat.le_of_ble_eq_true rfl) dL_weather_14
  · have hp2 := hp
    obtain ⟨hT, rfl, rfl⟩ := hp
    refine lv_i2l hx hb dL_weather_7 rfl ?_
    refine fx_last (k := 10) (j := 0) (n := 1) hx hb hK hI oW_s (i := 0) (by unfold vp_in; decide) oW_u dL_weather_8 (fun H locs hI => ?_)
    refine lv_goto (tgt := 15) hx hb dL_weather_9 (by decide) ?_
    refine lv_iconst (v := 0) hx hb dL_weather_15 (by decide) ?_
    exact rx_i hx hb hr hlocks hI hA hQ (Or.inl ⟨_, _, hp2, rfl, rfl⟩) (Nat.le_of_ble_eq_true rfl) (Nat.le_of_ble_eq_true rfl) dL_weather_16
theorem kH_snow : CkH "IcehighwayLaw" 115 yL_snow cL_snow 4 (some .int) [(0, 9, 12, 13)] 3 := ⟨q351, q349, q350, q0, by decide +kernel⟩
theorem kLX_21 : CkV "IcehighwayLaw" 21 yX3_snow cX3_snow 3 (some .int) 1 := ⟨q355, q352, q353, q354, q1, by decide +kernel⟩
set_option maxHeartbeats 4000000 in
theorem tE_snow {Z : XZ} {S : XS} {uk : Int32} {E : String} (h : (X_snow Z S uk).1 = some E) : E = EIAE := by
  unfold X_snow at h
  try dsimp only at h
  (repeat' split at h) <;> first | exact absurd (show (none : Option String) = some E from h) (fun z => nomatch z) | exact (Option.some.inj h).symm | exact tE_needRange (Z := Z) (S := S) h
set_option maxHeartbeats 4000000 in
set_option maxRecDepth 100000 in
theorem cL_snoww (G : GX) (hst : G.1.stackTraces = false) (Z : XZ) (S : XS) (b : Nat) (f : Nat → Int64) (uk : Int32) (hWZ : WZ Z) : FH G yL_snow cL_snow 4 (some .int) [(0, 9, 12, 13)] { frames := 8, cells := 1, slots := 6, locals := 126 } [.ref (Z.A 0 0), .int uk, .ref b] (jn (xW G.2.2.2 G.2.1 Z S) (oW G.2.2.2 b f)) (poL G.2.2.2 (xW G.2.2.2 G.2.1 Z S) b f cvI (pvx (X_snow Z S uk).1 (.int (X_snow Z S uk).2.1) (xW G.2.2.2 G.2.1 Z (X_snow Z S uk).2.2)) (px (X_snow Z S uk).1 (xW G.2.2.2 G.2.1 Z S)) (cdL EIAE "")) := by
  refine FH.go (lv := [(0, .ref (Z.A 0 0)), (1, .int uk), (2, .ref b)]) (by decide) (Nat.le_of_ble_eq_true rfl) rfl (fun p e s m args below meth c A H locs ls Q hx hb hr hts hown hml hlocks htab hK hE hI hA hl hQ => ?_)
  have hown : s.vm.findClass "IcehighwayLaw" = some m.cls := hown
  refine lv_aload_n hx hb dL_snow_0 rfl (lv_at hl 2 rfl) ?_
  refine lv_iconst (v := 0) hx hb dL_snow_1 (by decide) ?_
  refine lv_aload_n hx hb dL_snow_2 rfl (lv_at hl 0 rfl) ?_
  refine lv_iload_n hx hb dL_snow_3 rfl (lv_at hl 1 rfl) ?_
  refine jx_xcallV (rest := [.int 0, .ref b]) (as := [.int uk]) hx hb hml hts hown hK hE Dj_oW hI (cX_snow G hst Z S uk hWZ) kLX_21 ⟨(Nat.le_of_ble_eq_true rfl), (Nat.le_of_ble_eq_true rfl)⟩ (kk := 0) (ii := 0) (xW0 (by decide)) rfl rfl hl.1 (Nat.le_of_ble_eq_true rfl) dL_snow_4 ⟨(Nat.le_of_ble_eq_true rfl), (Nat.le_of_ble_eq_true rfl)⟩ (fun E ce q9 w' H locs hp hI g1 g2 g3 => ?_) (fun v w' H locs hp hI => ?_)
  · obtain ⟨hpT, rfl⟩ := hp
    have hE9 := tE_snow hpT
    subst hE9
    refine jx_catch hts hown hE htab [] (0, 9, 12, 13) [] rfl (fun z hz => by cases hz) (by decide) (by decide) q103 q114 g1 g2 g3 ?_
    refine lv_astore_n (lv' := [(3, .ref q9), (0, .ref (Z.A 0 0)), (1, .int uk), (2, .ref b)]) hx hb dL_snow_12 rfl hl (by decide) rfl (fun ls hl => ?_)
    refine lv_iconst (v := 1) hx hb dL_snow_13 (by decide) ?_
    exact rx_i hx hb hr hlocks hI hA hQ (Or.inr ⟨EIAE, ⟨hpT, rfl⟩, congrArg (fun z => some (Value.int z)) cdL_1.symm, rfl⟩) (Nat.le_of_ble_eq_true rfl) (Nat.le_of_ble_eq_true rfl) dL_snow_14
  · have hp2 := hp
    obtain ⟨hT, rfl, rfl⟩ := hp
    refine lv_i2l hx hb dL_snow_7 rfl ?_
    refine fx_last (k := 10) (j := 0) (n := 1) hx hb hK hI oW_s (i := 0) (by unfold vp_in; decide) oW_u dL_snow_8 (fun H locs hI => ?_)
    refine lv_goto (tgt := 15) hx hb dL_snow_9 (by decide) ?_
    refine lv_iconst (v := 0) hx hb dL_snow_15 (by decide) ?_
    exact rx_i hx hb hr hlocks hI hA hQ (Or.inl ⟨_, _, hp2, rfl, rfl⟩) (Nat.le_of_ble_eq_true rfl) (Nat.le_of_ble_eq_true rfl) dL_snow_16
theorem kH_plough : CkH "IcehighwayLaw" 118 yL_plough cL_plough 4 (some .int) [(0, 9, 12, 27)] 3 := ⟨q377, q375, q376, q0, by decide +kernel⟩
theorem kLX_24 : CkV "IcehighwayLaw" 24 yX3_plough cX3_plough 4 (some .int) 1 := ⟨q382, q379, q380, q381, q1, by decide +kernel⟩
set_option maxHeartbeats 4000000 in
theorem tE_plough {Z : XZ} {S : XS} {up : Int32} {E : String} (h : (X_plough Z S up).1 = some E) : E = EIOB := by
  unfold X_plough at h
  try dsimp only at h
  (repeat' split at h) <;> first | exact absurd (show (none : Option String) = some E from h) (fun z => nomatch z) | exact (Option.some.inj h).symm | exact tE_needGoods (Z := Z) (S := S) h | exact tE_pieceNumbered (Z := Z) (S := S) h | exact tE_vehicleNumbered (Z := Z) (S := S) h
set_option maxHeartbeats 4000000 in
set_option maxRecDepth 100000 in
theorem cL_ploughw (G : GX) (hst : G.1.stackTraces = false) (Z : XZ) (S : XS) (b : Nat) (f : Nat → Int64) (up : Int32) (hWZ : WZ Z) : FH G yL_plough cL_plough 4 (some .int) [(0, 9, 12, 27)] { frames := 8, cells := 1, slots := 6, locals := 126 } [.ref (Z.A 0 0), .int up, .ref b] (jn (xW G.2.2.2 G.2.1 Z S) (oW G.2.2.2 b f)) (poL G.2.2.2 (xW G.2.2.2 G.2.1 Z S) b f cvI (pvx (X_plough Z S up).1 (.int (X_plough Z S up).2.1) (xW G.2.2.2 G.2.1 Z (X_plough Z S up).2.2)) (px (X_plough Z S up).1 (xW G.2.2.2 G.2.1 Z S)) (cdL EIOB "")) := by
  refine FH.go (lv := [(0, .ref (Z.A 0 0)), (1, .int up), (2, .ref b)]) (by decide) (Nat.le_of_ble_eq_true rfl) rfl (fun p e s m args below meth c A H locs ls Q hx hb hr hts hown hml hlocks htab hK hE hI hA hl hQ => ?_)
  have hown : s.vm.findClass "IcehighwayLaw" = some m.cls := hown
  refine lv_aload_n hx hb dL_plough_0 rfl (lv_at hl 2 rfl) ?_
  refine lv_iconst (v := 0) hx hb dL_plough_1 (by decide) ?_
  refine lv_aload_n hx hb dL_plough_2 rfl (lv_at hl 0 rfl) ?_
  refine lv_iload_n hx hb dL_plough_3 rfl (lv_at hl 1 rfl) ?_
  refine jx_xcallV (rest := [.int 0, .ref b]) (as := [.int up]) hx hb hml hts hown hK hE Dj_oW hI (cX_plough G hst Z S up hWZ) kLX_24 ⟨(Nat.le_of_ble_eq_true rfl), (Nat.le_of_ble_eq_true rfl)⟩ (kk := 0) (ii := 0) (xW0 (by decide)) rfl rfl hl.1 (Nat.le_of_ble_eq_true rfl) dL_plough_4 ⟨(Nat.le_of_ble_eq_true rfl), (Nat.le_of_ble_eq_true rfl)⟩ (fun E ce q9 w' H locs hp hI g1 g2 g3 => ?_) (fun v w' H locs hp hI => ?_)
  · obtain ⟨hpT, rfl⟩ := hp
    have hE9 := tE_plough hpT
    subst hE9
    refine jx_catch hts hown hE htab [] (0, 9, 12, 27) [] rfl (fun z hz => by cases hz) (by decide) (by decide) q378 q389 g1 g2 g3 ?_
    refine lv_astore_n (lv' := [(3, .ref q9), (0, .ref (Z.A 0 0)), (1, .int up), (2, .ref b)]) hx hb dL_plough_12 rfl hl (by decide) rfl (fun ls hl => ?_)
    refine lv_iconst (v := 1) hx hb dL_plough_13 (by decide) ?_
    exact rx_i hx hb hr hlocks hI hA hQ (Or.inr ⟨EIOB, ⟨hpT, rfl⟩, congrArg (fun z => some (Value.int z)) cdL_1.symm, rfl⟩) (Nat.le_of_ble_eq_true rfl) (Nat.le_of_ble_eq_true rfl) dL_plough_14
  · have hp2 := hp
    obtain ⟨hT, rfl, rfl⟩ := hp
    refine lv_i2l hx hb dL_plough_7 rfl ?_
    refine fx_last (k := 10) (j := 0) (n := 1) hx hb hK hI oW_s (i := 0) (by unfold vp_in; decide) oW_u dL_plough_8 (fun H locs hI => ?_)
    refine lv_goto (tgt := 15) hx hb dL_plough_9 (by decide) ?_
    refine lv_iconst (v := 0) hx hb dL_plough_15 (by decide) ?_
    exact rx_i hx hb hr hlocks hI hA hQ (Or.inl ⟨_, _, hp2, rfl, rfl⟩) (Nat.le_of_ble_eq_true rfl) (Nat.le_of_ble_eq_true rfl) dL_plough_16
theorem kH_flood : CkH "IcehighwayLaw" 121 yL_flood cL_flood 5 (some .int) [(0, 10, 13, 27), (0, 10, 17, 13), (0, 10, 21, 15)] 4 := ⟨q405, q403, q404, q0, by decide +kernel⟩
theorem kLX_29 : CkV "IcehighwayLaw" 29 yX3_flood cX3_flood 4 (some .int) 2 := ⟨q409, q406, q407, q408, q1, by decide +kernel⟩
set_option maxHeartbeats 4000000 in
theorem tE_flood {Z : XZ} {S : XS} {up : Int32} {uk : Int32} {E : String} (h : (X_flood Z S up uk).1 = some E) : E = EIOB ∨ E = EIAE ∨ E = EISE := by
  unfold X_flood at h
  try dsimp only at h
  (repeat' split at h) <;> first | exact absurd (show (none : Option String) = some E from h) (fun z => nomatch z) | exact Or.inl ((Option.some.inj h).symm) | exact Or.inr (Or.inl ((Option.some.inj h).symm)) | exact Or.inr (Or.inr (((Option.some.inj h).symm))) | exact Or.inr (Or.inl (tE_needRange (Z := Z) (S := S) h)) | exact Or.inl (tE_needGoods (Z := Z) (S := S) h) | exact Or.inl (tE_pieceNumbered (Z := Z) (S := S) h) | exact Or.inl (tE_vehicleNumbered (Z := Z) (S := S) h)
set_option maxHeartbeats 4000000 in
set_option maxRecDepth 100000 in
theorem cL_floodw (G : GX) (hst : G.1.stackTraces = false) (Z : XZ) (S : XS) (b : Nat) (f : Nat → Int64) (up : Int32) (uk : Int32) (hWZ : WZ Z) : FH G yL_flood cL_flood 5 (some .int) [(0, 10, 13, 27), (0, 10, 17, 13), (0, 10, 21, 15)] { frames := 8, cells := 3, slots := 18, locals := 127 } [.ref (Z.A 0 0), .int up, .int uk, .ref b] (jn (xW G.2.2.2 G.2.1 Z S) (oW G.2.2.2 b f)) (poL G.2.2.2 (xW G.2.2.2 G.2.1 Z S) b f cvI (pvx (X_flood Z S up uk).1 (.int (X_flood Z S up uk).2.1) (xW G.2.2.2 G.2.1 Z (X_flood Z S up uk).2.2)) (px (X_flood Z S up uk).1 (xW G.2.2.2 G.2.1 Z S)) (cdL EIOB EIAE)) := by
  refine FH.go (lv := [(0, .ref (Z.A 0 0)), (1, .int up), (2, .int uk), (3, .ref b)]) (by decide) (Nat.le_of_ble_eq_true rfl) rfl (fun p e s m args below meth c A H locs ls Q hx hb hr hts hown hml hlocks htab hK hE hI hA hl hQ => ?_)
  have hown : s.vm.findClass "IcehighwayLaw" = some m.cls := hown
  refine lv_aload_n hx hb dL_flood_0 rfl (lv_at hl 3 rfl) ?_
  refine lv_iconst (v := 0) hx hb dL_flood_1 (by decide) ?_
  refine lv_aload_n hx hb dL_flood_2 rfl (lv_at hl 0 rfl) ?_
  refine lv_iload_n hx hb dL_flood_3 rfl (lv_at hl 1 rfl) ?_
  refine lv_iload_n hx hb dL_flood_4 rfl (lv_at hl 2 rfl) ?_
  refine jx_xcallV (rest := [.int 0, .ref b]) (as := [.int up, .int uk]) hx hb hml hts hown hK hE Dj_oW hI (cX_flood G hst Z S up uk hWZ) kLX_29 ⟨(Nat.le_of_ble_eq_true rfl), (Nat.le_of_ble_eq_true rfl)⟩ (kk := 0) (ii := 0) (xW0 (by decide)) rfl rfl hl.1 (Nat.le_of_ble_eq_true rfl) dL_flood_5 ⟨(Nat.le_of_ble_eq_true rfl), (Nat.le_of_ble_eq_true rfl)⟩ (fun E ce q9 w' H locs hp hI g1 g2 g3 => ?_) (fun v w' H locs hp hI => ?_)
  · obtain ⟨hpT, rfl⟩ := hp
    have hE9 := tE_flood hpT
    rcases hE9 with rfl | rfl | rfl
    · refine jx_catch hts hown hE htab [] (0, 10, 13, 27) [(0, 10, 17, 13), (0, 10, 21, 15)] rfl (fun z hz => by cases hz) (by decide) (by decide) q378 q389 g1 g2 g3 ?_
      refine lv_astore (lv' := [(4, .ref q9), (0, .ref (Z.A 0 0)), (1, .int up), (2, .int uk), (3, .ref b)]) hx hb dL_flood_13 hl (by decide) rfl (fun ls hl => ?_)
      refine lv_iconst (v := 1) hx hb dL_flood_15 (by decide) ?_
      exact rx_i hx hb hr hlocks hI hA hQ (Or.inr ⟨EIOB, ⟨hpT, rfl⟩, congrArg (fun z => some (Value.int z)) cdL_1.symm, rfl⟩) (Nat.le_of_ble_eq_true rfl) (Nat.le_of_ble_eq_true rfl) dL_flood_16
    · refine jx_catch hts hown hE htab [(0, 10, 13, 27)] (0, 10, 17, 13) [(0, 10, 21, 15)] rfl (fun z hz => by
      simp only [List.mem_cons, List.not_mem_nil, or_false] at hz
      subst hz
      · exact ⟨by decide, _, q378, by decide⟩) (by decide) (by decide) q103 q114 g1 g2 g3 ?_
      refine lv_astore (lv' := [(4, .ref q9), (0, .ref (Z.A 0 0)), (1, .int up), (2, .int uk), (3, .ref b)]) hx hb dL_flood_17 hl (by decide) rfl (fun ls hl => ?_)
      refine lv_iconst (v := 2) hx hb dL_flood_19 (by decide) ?_
      exact rx_i hx hb hr hlocks hI hA hQ (Or.inr ⟨EIAE, ⟨hpT, rfl⟩, congrArg (fun z => some (Value.int z)) (cdL_2 (by decide)).symm, rfl⟩) (Nat.le_of_ble_eq_true rfl) (Nat.le_of_ble_eq_true rfl) dL_flood_20
    · refine jx_catch hts hown hE htab [(0, 10, 13, 27), (0, 10, 17, 13)] (0, 10, 21, 15) [] rfl (fun z hz => by
      simp only [List.mem_cons, List.not_mem_nil, or_false] at hz
      rcases hz with rfl | rfl
      · exact ⟨by decide, _, q378, by decide⟩
      · exact ⟨by decide, _, q103, by decide⟩) (by decide) (by decide) q104 q201 g1 g2 g3 ?_
      refine lv_astore (lv' := [(4, .ref q9), (0, .ref (Z.A 0 0)), (1, .int up), (2, .int uk), (3, .ref b)]) hx hb dL_flood_21 hl (by decide) rfl (fun ls hl => ?_)
      refine lv_iconst (v := 3) hx hb dL_flood_23 (by decide) ?_
      exact rx_i hx hb hr hlocks hI hA hQ (Or.inr ⟨EISE, ⟨hpT, rfl⟩, congrArg (fun z => some (Value.int z)) (cdL_3 (by decide) (by decide)).symm, rfl⟩) (Nat.le_of_ble_eq_true rfl) (Nat.le_of_ble_eq_true rfl) dL_flood_24
  · have hp2 := hp
    obtain ⟨hT, rfl, rfl⟩ := hp
    refine lv_i2l hx hb dL_flood_8 rfl ?_
    refine fx_last (k := 10) (j := 0) (n := 1) hx hb hK hI oW_s (i := 0) (by unfold vp_in; decide) oW_u dL_flood_9 (fun H locs hI => ?_)
    refine lv_goto (tgt := 25) hx hb dL_flood_10 (by decide) ?_
    refine lv_iconst (v := 0) hx hb dL_flood_25 (by decide) ?_
    exact rx_i hx hb hr hlocks hI hA hQ (Or.inl ⟨_, _, hp2, rfl, rfl⟩) (Nat.le_of_ble_eq_true rfl) (Nat.le_of_ble_eq_true rfl) dL_flood_26
theorem kH_drill : CkH "IcehighwayLaw" 125 yL_drill cL_drill 4 (some .int) [(0, 8, 11, 27)] 3 := ⟨q421, q419, q420, q0, by decide +kernel⟩
theorem kLX_33 : CkV "IcehighwayLaw" 33 yX3_drill cX3_drill 3 (some .double) 1 := ⟨q425, q422, q423, q424, q1, by decide +kernel⟩
set_option maxHeartbeats 4000000 in
theorem tE_drill {Z : XZ} {S : XS} {up : Int32} {E : String} (h : (X_drill Z S up).1 = some E) : E = EIOB := by
  unfold X_drill at h
  try dsimp only at h
  (repeat' split at h) <;> first | exact absurd (show (none : Option String) = some E from h) (fun z => nomatch z) | exact (Option.some.inj h).symm | exact tE_needGoods (Z := Z) (S := S) h | exact tE_pieceNumbered (Z := Z) (S := S) h | exact tE_vehicleNumbered (Z := Z) (S := S) h
set_option maxHeartbeats 4000000 in
set_option maxRecDepth 100000 in
theorem cL_drillw (G : GX) (hst : G.1.stackTraces = false) (Z : XZ) (S : XS) (b : Nat) (f : Nat → UInt64) (up : Int32) (hWZ : WZ Z) : FH G yL_drill cL_drill 4 (some .int) [(0, 8, 11, 27)] { frames := 8, cells := 1, slots := 6, locals := 125 } [.ref (Z.A 0 0), .int up, .ref b] (jn (xW G.2.2.2 G.2.1 Z S) (oD G.2.2.2 b f)) (poD G.2.2.2 (xW G.2.2.2 G.2.1 Z S) b f cvD (pvx (X_drill Z S up).1 (.double (X_drill Z S up).2.1) (xW G.2.2.2 G.2.1 Z (X_drill Z S up).2.2)) (px (X_drill Z S up).1 (xW G.2.2.2 G.2.1 Z S)) (cdL EIOB "")) := by
  refine FH.go (lv := [(0, .ref (Z.A 0 0)), (1, .int up), (2, .ref b)]) (by decide) (Nat.le_of_ble_eq_true rfl) rfl (fun p e s m args below meth c A H locs ls Q hx hb hr hts hown hml hlocks htab hK hE hI hA hl hQ => ?_)
  have hown : s.vm.findClass "IcehighwayLaw" = some m.cls := hown
  refine lv_aload_n hx hb dL_drill_0 rfl (lv_at hl 2 rfl) ?_
  refine lv_iconst (v := 0) hx hb dL_drill_1 (by decide) ?_
  refine lv_aload_n hx hb dL_drill_2 rfl (lv_at hl 0 rfl) ?_
  refine lv_iload_n hx hb dL_drill_3 rfl (lv_at hl 1 rfl) ?_
  refine jx_xcallV (rest := [.int 0, .ref b]) (as := [.int up]) hx hb hml hts hown hK hE Dj_oD hI (cX_drill G hst Z S up hWZ) kLX_33 ⟨(Nat.le_of_ble_eq_true rfl), (Nat.le_of_ble_eq_true rfl)⟩ (kk := 0) (ii := 0) (xW0 (by decide)) rfl rfl hl.1 (Nat.le_of_ble_eq_true rfl) dL_drill_4 ⟨(Nat.le_of_ble_eq_true rfl), (Nat.le_of_ble_eq_true rfl)⟩ (fun E ce q9 w' H locs hp hI g1 g2 g3 => ?_) (fun v w' H locs hp hI => ?_)
  · obtain ⟨hpT, rfl⟩ := hp
    have hE9 := tE_drill hpT
    subst hE9
    refine jx_catch hts hown hE htab [] (0, 8, 11, 27) [] rfl (fun z hz => by cases hz) (by decide) (by decide) q378 q389 g1 g2 g3 ?_
    refine lv_astore_n (lv' := [(3, .ref q9), (0, .ref (Z.A 0 0)), (1, .int up), (2, .ref b)]) hx hb dL_drill_11 rfl hl (by decide) rfl (fun ls hl => ?_)
    refine lv_iconst (v := 1) hx hb dL_drill_12 (by decide) ?_
    exact rx_i hx hb hr hlocks hI hA hQ (Or.inr ⟨EIOB, ⟨hpT, rfl⟩, congrArg (fun z => some (Value.int z)) cdL_1.symm, rfl⟩) (Nat.le_of_ble_eq_true rfl) (Nat.le_of_ble_eq_true rfl) dL_drill_13
  · have hp2 := hp
    obtain ⟨hT, rfl, rfl⟩ := hp
    refine fx_dast (k := 11) (j := 0) (n := 1) hx hb hK hI oD_s (i := 0) (by unfold vp_in; decide) oD_u dL_drill_7 (fun H locs hI => ?_)
    refine lv_goto (tgt := 14) hx hb dL_drill_8 (by decide) ?_
    refine lv_iconst (v := 0) hx hb dL_drill_14 (by decide) ?_
    exact rx_i hx hb hr hlocks hI hA hQ (Or.inl ⟨_, _, hp2, rfl, rfl⟩) (Nat.le_of_ble_eq_true rfl) (Nat.le_of_ble_eq_true rfl) dL_drill_15
theorem kH_open : CkH "IcehighwayLaw" 129 yL_open cL_open 5 (some .int) [(0, 10, 13, 27), (0, 10, 17, 13)] 4 := ⟨q433, q431, q432, q0, by decide +kernel⟩
theorem kLX_37 : CkV "IcehighwayLaw" 37 yX3_open cX3_open 5 (some .int) 2 := ⟨q437, q434, q435, q436, q1, by decide +kernel⟩
set_option maxHeartbeats 4000000 in
theorem tE_open {Z : XZ} {S : XS} {up : Int32} {uk : Int32} {E : String} (h : (X_open Z S up uk).1 = some E) : E = EIOB ∨ E = EIAE := by
  unfold X_open at h
  try dsimp only at h
  (repeat' split at h) <;> first | exact absurd (show (none : Option String) = some E from h) (fun z => nomatch z) | exact Or.inl ((Option.some.inj h).symm) | exact Or.inr (((Option.some.inj h).symm)) | exact Or.inr ((tE_needRange (Z := Z) (S := S) h)) | exact Or.inl (tE_needGoods (Z := Z) (S := S) h) | exact Or.inl (tE_pieceNumbered (Z := Z) (S := S) h) | exact Or.inl (tE_vehicleNumbered (Z := Z) (S := S) h)
set_option maxHeartbeats 4000000 in
set_option maxRecDepth 100000 in
theorem cL_openw (G : GX) (hst : G.1.stackTraces = false) (Z : XZ) (S : XS) (b : Nat) (f : Nat → Int64) (up : Int32) (uk : Int32) (hWZ : WZ Z) : FH G yL_open cL_open 5 (some .int) [(0, 10, 13, 27), (0, 10, 17, 13)] { frames := 8, cells := 2, slots := 12, locals := 128 } [.ref (Z.A 0 0), .int up, .int uk, .ref b] (jn (xW G.2.2.2 G.2.1 Z S) (oW G.2.2.2 b f)) (poL G.2.2.2 (xW G.2.2.2 G.2.1 Z S) b f cvI (pvx (X_open Z S up uk).1 (.int (X_open Z S up uk).2.1) (xW G.2.2.2 G.2.1 Z (X_open Z S up uk).2.2)) (px (X_open Z S up uk).1 (xW G.2.2.2 G.2.1 Z S)) (cdL EIOB EIAE)) := by
  refine FH.go (lv := [(0, .ref (Z.A 0 0)), (1, .int up), (2, .int uk), (3, .ref b)]) (by decide) (Nat.le_of_ble_eq_true rfl) rfl (fun p e s m args below meth c A H locs ls Q hx hb hr hts hown hml hlocks htab hK hE hI hA hl hQ => ?_)
  have hown : s.vm.findClass "IcehighwayLaw" = some m.cls := hown
  refine lv_aload_n hx hb dL_open_0 rfl (lv_at hl 3 rfl) ?_
  refine lv_iconst (v := 0) hx hb dL_open_1 (by decide) ?_
  refine lv_aload_n hx hb dL_open_2 rfl (lv_at hl 0 rfl) ?_
  refine lv_iload_n hx hb dL_open_3 rfl (lv_at hl 1 rfl) ?_
  refine lv_iload_n hx hb dL_open_4 rfl (lv_at hl 2 rfl) ?_
  refine jx_xcallV (rest := [.int 0, .ref b]) (as := [.int up, .int uk]) hx hb hml hts hown hK hE Dj_oW hI (cX_open G hst Z S up uk hWZ) kLX_37 ⟨(Nat.le_of_ble_eq_true rfl), (Nat.le_of_ble_eq_true rfl)⟩ (kk := 0) (ii := 0) (xW0 (by decide)) rfl rfl hl.1 (Nat.le_of_ble_eq_true rfl) dL_open_5 ⟨(Nat.le_of_ble_eq_true rfl), (Nat.le_of_ble_eq_true rfl)⟩ (fun E ce q9 w' H locs hp hI g1 g2 g3 => ?_) (fun v w' H locs hp hI => ?_)
  · obtain ⟨hpT, rfl⟩ := hp
    have hE9 := tE_open hpT
    rcases hE9 with rfl | rfl
    · refine jx_catch hts hown hE htab [] (0, 10, 13, 27) [(0, 10, 17, 13)] rfl (fun z hz => by cases hz) (by decide) (by decide) q378 q389 g1 g2 g3 ?_
      refine lv_astore (lv' := [(4, .ref q9), (0, .ref (Z.A 0 0)), (1, .int up), (2, .int uk), (3, .ref b)]) hx hb dL_open_13 hl (by decide) rfl (fun ls hl => ?_)
      refine lv_iconst (v := 1) hx hb dL_open_15 (by decide) ?_
      exact rx_i hx hb hr hlocks hI hA hQ (Or.inr ⟨EIOB, ⟨hpT, rfl⟩, congrArg (fun z => some (Value.int z)) cdL_1.symm, rfl⟩) (Nat.le_of_ble_eq_true rfl) (Nat.le_of_ble_eq_true rfl) dL_open_16
    · refine jx_catch hts hown hE htab [(0, 10, 13, 27)] (0, 10, 17, 13) [] rfl (fun z hz => by
      simp only [List.mem_cons, List.not_mem_nil, or_false] at hz
      subst hz
      · exact ⟨by decide, _, q378, by decide⟩) (by decide) (by decide) q103 q114 g1 g2 g3 ?_
      refine lv_astore (lv' := [(4, .ref q9), (0, .ref (Z.A 0 0)), (1, .int up), (2, .int uk), (3, .ref b)]) hx hb dL_open_17 hl (by decide) rfl (fun ls hl => ?_)
      refine lv_iconst (v := 2) hx hb dL_open_19 (by decide) ?_
      exact rx_i hx hb hr hlocks hI hA hQ (Or.inr ⟨EIAE, ⟨hpT, rfl⟩, congrArg (fun z => some (Value.int z)) (cdL_2 (by decide)).symm, rfl⟩) (Nat.le_of_ble_eq_true rfl) (Nat.le_of_ble_eq_true rfl) dL_open_20
  · have hp2 := hp
    obtain ⟨hT, rfl, rfl⟩ := hp
    refine lv_i2l hx hb dL_open_8 rfl ?_
    refine fx_last (k := 10) (j := 0) (n := 1) hx hb hK hI oW_s (i := 0) (by unfold vp_in; decide) oW_u dL_open_9 (fun H locs hI => ?_)
    refine lv_goto (tgt := 21) hx hb dL_open_10 (by decide) ?_
    refine lv_iconst (v := 0) hx hb dL_open_21 (by decide) ?_
    exact rx_i hx hb hr hlocks hI hA hQ (Or.inl ⟨_, _, hp2, rfl, rfl⟩) (Nat.le_of_ble_eq_true rfl) (Nat.le_of_ble_eq_true rfl) dL_open_22
theorem kH_limit : CkH "IcehighwayLaw" 132 yL_limit cL_limit 5 (some .int) [(0, 10, 13, 27), (0, 10, 17, 13)] 4 := ⟨q440, q438, q439, q0, by decide +kernel⟩
theorem kLX_40 : CkV "IcehighwayLaw" 40 yX3_limit cX3_limit 5 (some .int) 2 := ⟨q444, q441, q442, q443, q1, by decide +kernel⟩
set_option maxHeartbeats 4000000 in
theorem tE_limit {Z : XZ} {S : XS} {up : Int32} {uk : Int32} {E : String} (h : (X_limit Z S up uk).1 = some E) : E = EIOB ∨ E = EIAE := by
  unfold X_limit at h
  try dsimp only at h
  (repeat' split at h) <;> first | exact absurd (show (none : Option String) = some E from h) (fun z => nomatch z) | exact Or.inl ((Option.some.inj h).symm) | exact Or.inr (((Option.some.inj h).symm)) | exact Or.inr ((tE_needRange (Z := Z) (S := S) h)) | exact Or.inl (tE_needGoods (Z := Z) (S := S) h) | exact Or.inl (tE_pieceNumbered (Z := Z) (S := S) h) | exact Or.inl (tE_vehicleNumbered (Z := Z) (S := S) h)
set_option maxHeartbeats 4000000 in
set_option maxRecDepth 100000 in
theorem cL_limitw (G : GX) (hst : G.1.stackTraces = false) (Z : XZ) (S : XS) (b : Nat) (f : Nat → Int64) (up : Int32) (uk : Int32) (hWZ : WZ Z) : FH G yL_limit cL_limit 5 (some .int) [(0, 10, 13, 27), (0, 10, 17, 13)] { frames := 8, cells := 2, slots := 12, locals := 128 } [.ref (Z.A 0 0), .int up, .int uk, .ref b] (jn (xW G.2.2.2 G.2.1 Z S) (oW G.2.2.2 b f)) (poL G.2.2.2 (xW G.2.2.2 G.2.1 Z S) b f cvI (pvx (X_limit Z S up uk).1 (.int (X_limit Z S up uk).2.1) (xW G.2.2.2 G.2.1 Z (X_limit Z S up uk).2.2)) (px (X_limit Z S up uk).1 (xW G.2.2.2 G.2.1 Z S)) (cdL EIOB EIAE)) := by
  refine FH.go (lv := [(0, .ref (Z.A 0 0)), (1, .int up), (2, .int uk), (3, .ref b)]) (by decide) (Nat.le_of_ble_eq_true rfl) rfl (fun p e s m args below meth c A H locs ls Q hx hb hr hts hown hml hlocks htab hK hE hI hA hl hQ => ?_)
  have hown : s.vm.findClass "IcehighwayLaw" = some m.cls := hown
  refine lv_aload_n hx hb dL_limit_0 rfl (lv_at hl 3 rfl) ?_
  refine lv_iconst (v := 0) hx hb dL_limit_1 (by decide) ?_
  refine lv_aload_n hx hb dL_limit_2 rfl (lv_at hl 0 rfl) ?_
  refine lv_iload_n hx hb dL_limit_3 rfl (lv_at hl 1 rfl) ?_
  refine lv_iload_n hx hb dL_limit_4 rfl (lv_at hl 2 rfl) ?_
  refine jx_xcallV (rest := [.int 0, .ref b]) (as := [.int up, .int uk]) hx hb hml hts hown hK hE Dj_oW hI (cX_limit G hst Z S up uk hWZ) kLX_40 ⟨(Nat.le_of_ble_eq_true rfl), (Nat.le_of_ble_eq_true rfl)⟩ (kk := 0) (ii := 0) (xW0 (by decide)) rfl rfl hl.1 (Nat.le_of_ble_eq_true rfl) dL_limit_5 ⟨(Nat.le_of_ble_eq_true rfl), (Nat.le_of_ble_eq_true rfl)⟩ (fun E ce q9 w' H locs hp hI g1 g2 g3 => ?_) (fun v w' H locs hp hI => ?_)
  · obtain ⟨hpT, rfl⟩ := hp
    have hE9 := tE_limit hpT
    rcases hE9 with rfl | rfl
    · refine jx_catch hts hown hE htab [] (0, 10, 13, 27) [(0, 10, 17, 13)] rfl (fun z hz => by cases hz) (by decide) (by decide) q378 q389 g1 g2 g3 ?_
      refine lv_astore (lv' := [(4, .ref q9), (0, .ref (Z.A 0 0)), (1, .int up), (2, .int uk), (3, .ref b)]) hx hb dL_limit_13 hl (by decide) rfl (fun ls hl => ?_)
      refine lv_iconst (v := 1) hx hb dL_limit_15 (by decide) ?_
      exact rx_i hx hb hr hlocks hI hA hQ (Or.inr ⟨EIOB, ⟨hpT, rfl⟩, congrArg (fun z => some (Value.int z)) cdL_1.symm, rfl⟩) (Nat.le_of_ble_eq_true rfl) (Nat.le_of_ble_eq_true rfl) dL_limit_16
    · refine jx_catch hts hown hE htab [(0, 10, 13, 27)] (0, 10, 17, 13) [] rfl (fun z hz => by
      simp only [List.mem_cons, List.not_mem_nil, or_false] at hz
      subst hz
      · exact ⟨by decide, _, q378, by decide⟩) (by decide) (by decide) q103 q114 g1 g2 g3 ?_
      refine lv_astore (lv' := [(4, .ref q9), (0, .ref (Z.A 0 0)), (1, .int up), (2, .int uk), (3, .ref b)]) hx hb dL_limit_17 hl (by decide) rfl (fun ls hl => ?_)
      refine lv_iconst (v := 2) hx hb dL_limit_19 (by decide) ?_
      exact rx_i hx hb hr hlocks hI hA hQ (Or.inr ⟨EIAE, ⟨hpT, rfl⟩, congrArg (fun z => some (Value.int z)) (cdL_2 (by decide)).symm, rfl⟩) (Nat.le_of_ble_eq_true rfl) (Nat.le_of_ble_eq_true rfl) dL_limit_20
  · have hp2 := hp
    obtain ⟨hT, rfl, rfl⟩ := hp
    refine lv_i2l hx hb dL_limit_8 rfl ?_
    refine fx_last (k := 10) (j := 0) (n := 1) hx hb hK hI oW_s (i := 0) (by unfold vp_in; decide) oW_u dL_limit_9 (fun H locs hI => ?_)
    refine lv_goto (tgt := 21) hx hb dL_limit_10 (by decide) ?_
    refine lv_iconst (v := 0) hx hb dL_limit_21 (by decide) ?_
    exact rx_i hx hb hr hlocks hI hA hQ (Or.inl ⟨_, _, hp2, rfl, rfl⟩) (Nat.le_of_ble_eq_true rfl) (Nat.le_of_ble_eq_true rfl) dL_limit_22
theorem kH_gap : CkH "IcehighwayLaw" 135 yL_gap cL_gap 4 (some .int) [(0, 9, 12, 13)] 3 := ⟨q447, q445, q446, q0, by decide +kernel⟩
theorem kLX_43 : CkV "IcehighwayLaw" 43 yX3_gap cX3_gap 3 (some .int) 1 := ⟨q451, q448, q449, q450, q1, by decide +kernel⟩
set_option maxHeartbeats 4000000 in
theorem tE_gap {Z : XZ} {S : XS} {uk : Int32} {E : String} (h : (X_gap Z S uk).1 = some E) : E = EIAE := by
  unfold X_gap at h
  try dsimp only at h
  (repeat' split at h) <;> first | exact absurd (show (none : Option String) = some E from h) (fun z => nomatch z) | exact (Option.some.inj h).symm | exact tE_needRange (Z := Z) (S := S) h
set_option maxHeartbeats 4000000 in
set_option maxRecDepth 100000 in
theorem cL_gapw (G : GX) (hst : G.1.stackTraces = false) (Z : XZ) (S : XS) (b : Nat) (f : Nat → Int64) (uk : Int32) : FH G yL_gap cL_gap 4 (some .int) [(0, 9, 12, 13)] { frames := 8, cells := 1, slots := 6, locals := 126 } [.ref (Z.A 0 0), .int uk, .ref b] (jn (xW G.2.2.2 G.2.1 Z S) (oW G.2.2.2 b f)) (poL G.2.2.2 (xW G.2.2.2 G.2.1 Z S) b f cvI (pvx (X_gap Z S uk).1 (.int (X_gap Z S uk).2.1) (xW G.2.2.2 G.2.1 Z (X_gap Z S uk).2.2)) (px (X_gap Z S uk).1 (xW G.2.2.2 G.2.1 Z S)) (cdL EIAE "")) := by
  refine FH.go (lv := [(0, .ref (Z.A 0 0)), (1, .int uk), (2, .ref b)]) (by decide) (Nat.le_of_ble_eq_true rfl) rfl (fun p e s m args below meth c A H locs ls Q hx hb hr hts hown hml hlocks htab hK hE hI hA hl hQ => ?_)
  have hown : s.vm.findClass "IcehighwayLaw" = some m.cls := hown
  refine lv_aload_n hx hb dL_gap_0 rfl (lv_at hl 2 rfl) ?_
  refine lv_iconst (v := 0) hx hb dL_gap_1 (by decide) ?_
  refine lv_aload_n hx hb dL_gap_2 rfl (lv_at hl 0 rfl) ?_
  refine lv_iload_n hx hb dL_gap_3 rfl (lv_at hl 1 rfl) ?_
  refine jx_xcallV (rest := [.int 0, .ref b]) (as := [.int uk]) hx hb hml hts hown hK hE Dj_oW hI (cX_gap G hst Z S uk) kLX_43 ⟨(Nat.le_of_ble_eq_true rfl), (Nat.le_of_ble_eq_true rfl)⟩ (kk := 0) (ii := 0) (xW0 (by decide)) rfl rfl hl.1 (Nat.le_of_ble_eq_true rfl) dL_gap_4 ⟨(Nat.le_of_ble_eq_true rfl), (Nat.le_of_ble_eq_true rfl)⟩ (fun E ce q9 w' H locs hp hI g1 g2 g3 => ?_) (fun v w' H locs hp hI => ?_)
  · obtain ⟨hpT, rfl⟩ := hp
    have hE9 := tE_gap hpT
    subst hE9
    refine jx_catch hts hown hE htab [] (0, 9, 12, 13) [] rfl (fun z hz => by cases hz) (by decide) (by decide) q103 q114 g1 g2 g3 ?_
    refine lv_astore_n (lv' := [(3, .ref q9), (0, .ref (Z.A 0 0)), (1, .int uk), (2, .ref b)]) hx hb dL_gap_12 rfl hl (by decide) rfl (fun ls hl => ?_)
    refine lv_iconst (v := 1) hx hb dL_gap_13 (by decide) ?_
    exact rx_i hx hb hr hlocks hI hA hQ (Or.inr ⟨EIAE, ⟨hpT, rfl⟩, congrArg (fun z => some (Value.int z)) cdL_1.symm, rfl⟩) (Nat.le_of_ble_eq_true rfl) (Nat.le_of_ble_eq_true rfl) dL_gap_14
  · have hp2 := hp
    obtain ⟨hT, rfl, rfl⟩ := hp
    refine lv_i2l hx hb dL_gap_7 rfl ?_
    refine fx_last (k := 10) (j := 0) (n := 1) hx hb hK hI oW_s (i := 0) (by unfold vp_in; decide) oW_u dL_gap_8 (fun H locs hI => ?_)
    refine lv_goto (tgt := 15) hx hb dL_gap_9 (by decide) ?_
    refine lv_iconst (v := 0) hx hb dL_gap_15 (by decide) ?_
    exact rx_i hx hb hr hlocks hI hA hQ (Or.inl ⟨_, _, hp2, rfl, rfl⟩) (Nat.le_of_ble_eq_true rfl) (Nat.le_of_ble_eq_true rfl) dL_gap_16
theorem kH_go : CkH "IcehighwayLaw" 144 yL_go cL_go 4 (some .int) [(0, 16, 19, 27), (0, 16, 22, 15)] 3 := ⟨q544, q542, q543, q0, by decide +kernel⟩
theorem kLX_52 : CkV "IcehighwayLaw" 52 yX3_go cX3_go 3 (some .boolean) 1 := ⟨q548, q545, q546, q547, q1, by decide +kernel⟩
set_option maxHeartbeats 4000000 in
theorem tE_go {Z : XZ} {S : XS} {uv : Int32} {E : String} (h : (X_go Z S uv).1 = some E) : E = EIOB ∨ E = EISE := by
  unfold X_go at h
  try dsimp only at h
  (repeat' split at h) <;> first | exact absurd (show (none : Option String) = some E from h) (fun z => nomatch z) | exact Or.inl ((Option.some.inj h).symm) | exact Or.inr (((Option.some.inj h).symm)) | exact Or.inl (tE_needGoods (Z := Z) (S := S) h) | exact Or.inl (tE_pieceNumbered (Z := Z) (S := S) h) | exact Or.inl (tE_vehicleNumbered (Z := Z) (S := S) h)
set_option maxHeartbeats 4000000 in
set_option maxRecDepth 100000 in
theorem cL_gow (G : GX) (hst : G.1.stackTraces = false) (Z : XZ) (S : XS) (b : Nat) (f : Nat → Int64) (uv : Int32) (hWZ : WZ Z) : FH G yL_go cL_go 4 (some .int) [(0, 16, 19, 27), (0, 16, 22, 15)] { frames := 8, cells := 2, slots := 12, locals := 125 } [.ref (Z.A 0 0), .int uv, .ref b] (jn (xW G.2.2.2 G.2.1 Z S) (oW G.2.2.2 b f)) (poL G.2.2.2 (xW G.2.2.2 G.2.1 Z S) b f cvZ (pvx (X_go Z S uv).1 (.int (X_go Z S uv).2.1) (xW G.2.2.2 G.2.1 Z (X_go Z S uv).2.2)) (px (X_go Z S uv).1 (xW G.2.2.2 G.2.1 Z S)) (cdL EIOB EISE)) := by
  refine FH.go (lv := [(0, .ref (Z.A 0 0)), (1, .int uv), (2, .ref b)]) (by decide) (Nat.le_of_ble_eq_true rfl) rfl (fun p e s m args below meth c A H locs ls Q hx hb hr hts hown hml hlocks htab hK hE hI hA hl hQ => ?_)
  have hown : s.vm.findClass "IcehighwayLaw" = some m.cls := hown
  refine lv_aload_n hx hb dL_go_0 rfl (lv_at hl 2 rfl) ?_
  refine lv_iconst (v := 0) hx hb dL_go_1 (by decide) ?_
  refine lv_aload_n hx hb dL_go_2 rfl (lv_at hl 0 rfl) ?_
  refine lv_iload_n hx hb dL_go_3 rfl (lv_at hl 1 rfl) ?_
  refine jx_xcallV (rest := [.int 0, .ref b]) (as := [.int uv]) hx hb hml hts hown hK hE Dj_oW hI (cX_go G hst Z S uv hWZ) kLX_52 ⟨(Nat.le_of_ble_eq_true rfl), (Nat.le_of_ble_eq_true rfl)⟩ (kk := 0) (ii := 0) (xW0 (by decide)) rfl rfl hl.1 (Nat.le_of_ble_eq_true rfl) dL_go_4 ⟨(Nat.le_of_ble_eq_true rfl), (Nat.le_of_ble_eq_true rfl)⟩ (fun E ce q9 w' H locs hp hI g1 g2 g3 => ?_) (fun v w' H locs hp hI => ?_)
  · obtain ⟨hpT, rfl⟩ := hp
    have hE9 := tE_go hpT
    rcases hE9 with rfl | rfl
    · refine jx_catch hts hown hE htab [] (0, 16, 19, 27) [(0, 16, 22, 15)] rfl (fun z hz => by cases hz) (by decide) (by decide) q378 q389 g1 g2 g3 ?_
      refine lv_astore_n (lv' := [(3, .ref q9), (0, .ref (Z.A 0 0)), (1, .int uv), (2, .ref b)]) hx hb dL_go_19 rfl hl (by decide) rfl (fun ls hl => ?_)
      refine lv_iconst (v := 1) hx hb dL_go_20 (by decide) ?_
      exact rx_i hx hb hr hlocks hI hA hQ (Or.inr ⟨EIOB, ⟨hpT, rfl⟩, congrArg (fun z => some (Value.int z)) cdL_1.symm, rfl⟩) (Nat.le_of_ble_eq_true rfl) (Nat.le_of_ble_eq_true rfl) dL_go_21
    · refine jx_catch hts hown hE htab [(0, 16, 19, 27)] (0, 16, 22, 15) [] rfl (fun z hz => by
      simp only [List.mem_cons, List.not_mem_nil, or_false] at hz
      subst hz
      · exact ⟨by decide, _, q378, by decide⟩) (by decide) (by decide) q104 q201 g1 g2 g3 ?_
      refine lv_astore_n (lv' := [(3, .ref q9), (0, .ref (Z.A 0 0)), (1, .int uv), (2, .ref b)]) hx hb dL_go_22 rfl hl (by decide) rfl (fun ls hl => ?_)
      refine lv_iconst (v := 2) hx hb dL_go_23 (by decide) ?_
      exact rx_i hx hb hr hlocks hI hA hQ (Or.inr ⟨EISE, ⟨hpT, rfl⟩, congrArg (fun z => some (Value.int z)) (cdL_2 (by decide)).symm, rfl⟩) (Nat.le_of_ble_eq_true rfl) (Nat.le_of_ble_eq_true rfl) dL_go_24
  · have hp2 := hp
    obtain ⟨hT, rfl, rfl⟩ := hp
    refine lv_if_eq (tgt := 14) hx hb dL_go_7 (by decide) (fun hz => ?_) (fun hz => ?_)
    · refine lv_lconst (v := 0) hx hb dL_go_14 (by decide) ?_
      refine fx_last (k := 10) (j := 0) (n := 1) hx hb hK hI oW_s (i := 0) (by unfold vp_in; decide) oW_u dL_go_15 (fun H locs hI => ?_)
      refine lv_goto (tgt := 25) hx hb dL_go_16 (by decide) ?_
      refine lv_iconst (v := 0) hx hb dL_go_25 (by decide) ?_
      exact rx_i hx hb hr hlocks hI hA hQ (Or.inl ⟨_, _, hp2, rfl, by rw [cvZ_0 hz]⟩) (Nat.le_of_ble_eq_true rfl) (Nat.le_of_ble_eq_true rfl) dL_go_26
    · refine lv_lconst (v := 1) hx hb dL_go_10 (by decide) ?_
      refine lv_goto (tgt := 15) hx hb dL_go_11 (by decide) ?_
      refine fx_last (k := 10) (j := 0) (n := 1) hx hb hK hI oW_s (i := 0) (by unfold vp_in; decide) oW_u dL_go_15 (fun H locs hI => ?_)
      refine lv_goto (tgt := 25) hx hb dL_go_16 (by decide) ?_
      refine lv_iconst (v := 0) hx hb dL_go_25 (by decide) ?_
      exact rx_i hx hb hr hlocks hI hA hQ (Or.inl ⟨_, _, hp2, rfl, by rw [cvZ_1 hz]⟩) (Nat.le_of_ble_eq_true rfl) (Nat.le_of_ble_eq_true rfl) dL_go_26
theorem kH_turn : CkH "IcehighwayLaw" 147 yL_turn cL_turn 4 (some .int) [(0, 16, 19, 27), (0, 16, 22, 15)] 3 := ⟨q552, q550, q551, q0, by decide +kernel⟩
theorem kLX_56 : CkV "IcehighwayLaw" 56 yX3_turn cX3_turn 3 (some .boolean) 1 := ⟨q556, q553, q554, q555, q1, by decide +kernel⟩
set_option maxHeartbeats 4000000 in
theorem tE_turn {Z : XZ} {S : XS} {uv : Int32} {E : String} (h : (X_turn Z S uv).1 = some E) : E = EIOB ∨ E = EISE := by
  unfold X_turn at h
  try dsimp only at h
  (repeat' split at h) <;> first | exact absurd (show (none : Option String) = some E from h) (fun z => nomatch z) | exact Or.inl ((Option.some.inj h).symm) | exact Or.inr (((Option.some.inj h).symm)) | exact Or.inl (tE_needGoods (Z := Z) (S := S) h) | exact Or.inl (tE_pieceNumbered (Z := Z) (S := S) h) | exact Or.inl (tE_vehicleNumbered (Z := Z) (S := S) h)
set_option maxHeartbeats 4000000 in
set_option maxRecDepth 100000 in
theorem cL_turnw (G : GX) (hst : G.1.stackTraces = false) (Z : XZ) (S : XS) (b : Nat) (f : Nat → Int64) (uv : Int32) (hWZ : WZ Z) (hC : CW Z S) : FH G yL_turn cL_turn 4 (some .int) [(0, 16, 19, 27), (0, 16, 22, 15)] { frames := 8, cells := 2, slots := 12, locals := 125 } [.ref (Z.A 0 0), .int uv, .ref b] (jn (xW G.2.2.2 G.2.1 Z S) (oW G.2.2.2 b f)) (poL G.2.2.2 (xW G.2.2.2 G.2.1 Z S) b f cvZ (pvx (X_turn Z S uv).1 (.int (X_turn Z S uv).2.1) (xW G.2.2.2 G.2.1 Z (X_turn Z S uv).2.2)) (px (X_turn Z S uv).1 (xW G.2.2.2 G.2.1 Z S)) (cdL EIOB EISE)) := by
  refine FH.go (lv := [(0, .ref (Z.A 0 0)), (1, .int uv), (2, .ref b)]) (by decide) (Nat.le_of_ble_eq_true rfl) rfl (fun p e s m args below meth c A H locs ls Q hx hb hr hts hown hml hlocks htab hK hE hI hA hl hQ => ?_)
  have hown : s.vm.findClass "IcehighwayLaw" = some m.cls := hown
  refine lv_aload_n hx hb dL_turn_0 rfl (lv_at hl 2 rfl) ?_
  refine lv_iconst (v := 0) hx hb dL_turn_1 (by decide) ?_
  refine lv_aload_n hx hb dL_turn_2 rfl (lv_at hl 0 rfl) ?_
  refine lv_iload_n hx hb dL_turn_3 rfl (lv_at hl 1 rfl) ?_
  refine jx_xcallV (rest := [.int 0, .ref b]) (as := [.int uv]) hx hb hml hts hown hK hE Dj_oW hI (cX_turn G hst Z S uv hWZ hC) kLX_56 ⟨(Nat.le_of_ble_eq_true rfl), (Nat.le_of_ble_eq_true rfl)⟩ (kk := 0) (ii := 0) (xW0 (by decide)) rfl rfl hl.1 (Nat.le_of_ble_eq_true rfl) dL_turn_4 ⟨(Nat.le_of_ble_eq_true rfl), (Nat.le_of_ble_eq_true rfl)⟩ (fun E ce q9 w' H locs hp hI g1 g2 g3 => ?_) (fun v w' H locs hp hI => ?_)
  · obtain ⟨hpT, rfl⟩ := hp
    have hE9 := tE_turn hpT
    rcases hE9 with rfl | rfl
    · refine jx_catch hts hown hE htab [] (0, 16, 19, 27) [(0, 16, 22, 15)] rfl (fun z hz => by cases hz) (by decide) (by decide) q378 q389 g1 g2 g3 ?_
      refine lv_astore_n (lv' := [(3, .ref q9), (0, .ref (Z.A 0 0)), (1, .int uv), (2, .ref b)]) hx hb dL_turn_19 rfl hl (by decide) rfl (fun ls hl => ?_)
      refine lv_iconst (v := 1) hx hb dL_turn_20 (by decide) ?_
      exact rx_i hx hb hr hlocks hI hA hQ (Or.inr ⟨EIOB, ⟨hpT, rfl⟩, congrArg (fun z => some (Value.int z)) cdL_1.symm, rfl⟩) (Nat.le_of_ble_eq_true rfl) (Nat.le_of_ble_eq_true rfl) dL_turn_21
    · refine jx_catch hts hown hE htab [(0, 16, 19, 27)] (0, 16, 22, 15) [] rfl (fun z hz => by
      simp only [List.mem_cons, List.not_mem_nil, or_false] at hz
      subst hz
      · exact ⟨by decide, _, q378, by decide⟩) (by decide) (by decide) q104 q201 g1 g2 g3 ?_
      refine lv_astore_n (lv' := [(3, .ref q9), (0, .ref (Z.A 0 0)), (1, .int uv), (2, .ref b)]) hx hb dL_turn_22 rfl hl (by decide) rfl (fun ls hl => ?_)
      refine lv_iconst (v := 2) hx hb dL_turn_23 (by decide) ?_
      exact rx_i hx hb hr hlocks hI hA hQ (Or.inr ⟨EISE, ⟨hpT, rfl⟩, congrArg (fun z => some (Value.int z)) (cdL_2 (by decide)).symm, rfl⟩) (Nat.le_of_ble_eq_true rfl) (Nat.le_of_ble_eq_true rfl) dL_turn_24
  · have hp2 := hp
    obtain ⟨hT, rfl, rfl⟩ := hp
    refine lv_if_eq (tgt := 14) hx hb dL_turn_7 (by decide) (fun hz => ?_) (fun hz => ?_)
    · refine lv_lconst (v := 0) hx hb dL_turn_14 (by decide) ?_
      refine fx_last (k := 10) (j := 0) (n := 1) hx hb hK hI oW_s (i := 0) (by unfold vp_in; decide) oW_u dL_turn_15 (fun H locs hI => ?_)
      refine lv_goto (tgt := 25) hx hb dL_turn_16 (by decide) ?_
      refine lv_iconst (v := 0) hx hb dL_turn_25 (by decide) ?_
      exact rx_i hx hb hr hlocks hI hA hQ (Or.inl ⟨_, _, hp2, rfl, by rw [cvZ_0 hz]⟩) (Nat.le_of_ble_eq_true rfl) (Nat.le_of_ble_eq_true rfl) dL_turn_26
    · refine lv_lconst (v := 1) hx hb dL_turn_10 (by decide) ?_
      refine lv_goto (tgt := 15) hx hb dL_turn_11 (by decide) ?_
      refine fx_last (k := 10) (j := 0) (n := 1) hx hb hK hI oW_s (i := 0) (by unfold vp_in; decide) oW_u dL_turn_15 (fun H locs hI => ?_)
      refine lv_goto (tgt := 25) hx hb dL_turn_16 (by decide) ?_
      refine lv_iconst (v := 0) hx hb dL_turn_25 (by decide) ?_
      exact rx_i hx hb hr hlocks hI hA hQ (Or.inl ⟨_, _, hp2, rfl, by rw [cvZ_1 hz]⟩) (Nat.le_of_ble_eq_true rfl) (Nat.le_of_ble_eq_true rfl) dL_turn_26
theorem kH_order : CkH "IcehighwayLaw" 150 yL_order cL_order 5 (some .int) [(0, 10, 13, 27), (0, 10, 17, 13), (0, 10, 21, 15)] 4 := ⟨q568, q566, q567, q0, by decide +kernel⟩
theorem kLX_59 : CkV "IcehighwayLaw" 59 yX3_order cX3_order 3 (some .int) 2 := ⟨q572, q569, q570, q571, q1, by decide +kernel⟩
set_option maxHeartbeats 4000000 in
theorem tE_order {Z : XZ} {S : XS} {ug : Int32} {uk : Int32} {E : String} (h : (X_order Z S ug uk).1 = some E) : E = EIOB ∨ E = EIAE ∨ E = EISE := by
  unfold X_order at h
  try dsimp only at h
  (repeat' split at h) <;> first | exact absurd (show (none : Option String) = some E from h) (fun z => nomatch z) | exact Or.inl ((Option.some.inj h).symm) | exact Or.inr (Or.inl ((Option.some.inj h).symm)) | exact Or.inr (Or.inr (((Option.some.inj h).symm))) | exact Or.inr (Or.inl (tE_needRange (Z := Z) (S := S) h)) | exact Or.inl (tE_needGoods (Z := Z) (S := S) h) | exact Or.inl (tE_pieceNumbered (Z := Z) (S := S) h) | exact Or.inl (tE_vehicleNumbered (Z := Z) (S := S) h)
set_option maxHeartbeats 4000000 in
set_option maxRecDepth 100000 in
theorem cL_orderw (G : GX) (hst : G.1.stackTraces = false) (Z : XZ) (S : XS) (b : Nat) (f : Nat → Int64) (ug : Int32) (uk : Int32) : FH G yL_order cL_order 5 (some .int) [(0, 10, 13, 27), (0, 10, 17, 13), (0, 10, 21, 15)] { frames := 8, cells := 3, slots := 18, locals := 126 } [.ref (Z.A 0 0), .int ug, .int uk, .ref b] (jn (xW G.2.2.2 G.2.1 Z S) (oW G.2.2.2 b f)) (poL G.2.2.2 (xW G.2.2.2 G.2.1 Z S) b f cvI (pvx (X_order Z S ug uk).1 (.int (X_order Z S ug uk).2.1) (xW G.2.2.2 G.2.1 Z (X_order Z S ug uk).2.2)) (px (X_order Z S ug uk).1 (xW G.2.2.2 G.2.1 Z S)) (cdL EIOB EIAE)) := by
  refine FH.go (lv := [(0, .ref (Z.A 0 0)), (1, .int ug), (2, .int uk), (3, .ref b)]) (by decide) (Nat.le_of_ble_eq_true rfl) rfl (fun p e s m args below meth c A H locs ls Q hx hb hr hts hown hml hlocks htab hK hE hI hA hl hQ => ?_)
  have hown : s.vm.findClass "IcehighwayLaw" = some m.cls := hown
  refine lv_aload_n hx hb dL_order_0 rfl (lv_at hl 3 rfl) ?_
  refine lv_iconst (v := 0) hx hb dL_order_1 (by decide) ?_
  refine lv_aload_n hx hb dL_order_2 rfl (lv_at hl 0 rfl) ?_
  refine lv_iload_n hx hb dL_order_3 rfl (lv_at hl 1 rfl) ?_
  refine lv_iload_n hx hb dL_order_4 rfl (lv_at hl 2 rfl) ?_
  refine jx_xcallV (rest := [.int 0, .ref b]) (as := [.int ug, .int uk]) hx hb hml hts hown hK hE Dj_oW hI (cX_order G hst Z S ug uk) kLX_59 ⟨(Nat.le_of_ble_eq_true rfl), (Nat.le_of_ble_eq_true rfl)⟩ (kk := 0) (ii := 0) (xW0 (by decide)) rfl rfl hl.1 (Nat.le_of_ble_eq_true rfl) dL_order_5 ⟨(Nat.le_of_ble_eq_true rfl), (Nat.le_of_ble_eq_true rfl)⟩ (fun E ce q9 w' H locs hp hI g1 g2 g3 => ?_) (fun v w' H locs hp hI => ?_)
  · obtain ⟨hpT, rfl⟩ := hp
    have hE9 := tE_order hpT
    rcases hE9 with rfl | rfl | rfl
    · refine jx_catch hts hown hE htab [] (0, 10, 13, 27) [(0, 10, 17, 13), (0, 10, 21, 15)] rfl (fun z hz => by cases hz) (by decide) (by decide) q378 q389 g1 g2 g3 ?_
      refine lv_astore (lv' := [(4, .ref q9), (0, .ref (Z.A 0 0)), (1, .int ug), (2, .int uk), (3, .ref b)]) hx hb dL_order_13 hl (by decide) rfl (fun ls hl => ?_)
      refine lv_iconst (v := 1) hx hb dL_order_15 (by decide) ?_
      exact rx_i hx hb hr hlocks hI hA hQ (Or.inr ⟨EIOB, ⟨hpT, rfl⟩, congrArg (fun z => some (Value.int z)) cdL_1.symm, rfl⟩) (Nat.le_of_ble_eq_true rfl) (Nat.le_of_ble_eq_true rfl) dL_order_16
    · refine jx_catch hts hown hE htab [(0, 10, 13, 27)] (0, 10, 17, 13) [(0, 10, 21, 15)] rfl (fun z hz => by
      simp only [List.mem_cons, List.not_mem_nil, or_false] at hz
      subst hz
      · exact ⟨by decide, _, q378, by decide⟩) (by decide) (by decide) q103 q114 g1 g2 g3 ?_
      refine lv_astore (lv' := [(4, .ref q9), (0, .ref (Z.A 0 0)), (1, .int ug), (2, .int uk), (3, .ref b)]) hx hb dL_order_17 hl (by decide) rfl (fun ls hl => ?_)
      refine lv_iconst (v := 2) hx hb dL_order_19 (by decide) ?_
      exact rx_i hx hb hr hlocks hI hA hQ (Or.inr ⟨EIAE, ⟨hpT, rfl⟩, congrArg (fun z => some (Value.int z)) (cdL_2 (by decide)).symm, rfl⟩) (Nat.le_of_ble_eq_true rfl) (Nat.le_of_ble_eq_true rfl) dL_order_20
    · refine jx_catch hts hown hE htab [(0, 10, 13, 27), (0, 10, 17, 13)] (0, 10, 21, 15) [] rfl (fun z hz => by
      simp only [List.mem_cons, List.not_mem_nil, or_false] at hz
      rcases hz with rfl | rfl
      · exact ⟨by decide, _, q378, by decide⟩
      · exact ⟨by decide, _, q103, by decide⟩) (by decide) (by decide) q104 q201 g1 g2 g3 ?_
      refine lv_astore (lv' := [(4, .ref q9), (0, .ref (Z.A 0 0)), (1, .int ug), (2, .int uk), (3, .ref b)]) hx hb dL_order_21 hl (by decide) rfl (fun ls hl => ?_)
      refine lv_iconst (v := 3) hx hb dL_order_23 (by decide) ?_
      exact rx_i hx hb hr hlocks hI hA hQ (Or.inr ⟨EISE, ⟨hpT, rfl⟩, congrArg (fun z => some (Value.int z)) (cdL_3 (by decide) (by decide)).symm, rfl⟩) (Nat.le_of_ble_eq_true rfl) (Nat.le_of_ble_eq_true rfl) dL_order_24
  · have hp2 := hp
    obtain ⟨hT, rfl, rfl⟩ := hp
    refine lv_i2l hx hb dL_order_8 rfl ?_
    refine fx_last (k := 10) (j := 0) (n := 1) hx hb hK hI oW_s (i := 0) (by unfold vp_in; decide) oW_u dL_order_9 (fun H locs hI => ?_)
    refine lv_goto (tgt := 25) hx hb dL_order_10 (by decide) ?_
    refine lv_iconst (v := 0) hx hb dL_order_25 (by decide) ?_
    exact rx_i hx hb hr hlocks hI hA hQ (Or.inl ⟨_, _, hp2, rfl, rfl⟩) (Nat.le_of_ble_eq_true rfl) (Nat.le_of_ble_eq_true rfl) dL_order_26
theorem kH_pass : CkH "IcehighwayLaw" 153 yL_pass cL_pass 4 (some .int) [(0, 9, 12, 13), (0, 9, 15, 15)] 3 := ⟨q578, q576, q577, q0, by decide +kernel⟩
theorem kLX_62 : CkV "IcehighwayLaw" 62 yX3_pass cX3_pass 3 (some .int) 1 := ⟨q582, q579, q580, q581, q1, by decide +kernel⟩
set_option maxHeartbeats 4000000 in
theorem tE_pass {Z : XZ} {S : XS} {uk : Int32} {E : String} (h : (X_pass Z S uk).1 = some E) : E = EIAE ∨ E = EISE := by
  unfold X_pass at h
  try dsimp only at h
  (repeat' split at h) <;> first | exact absurd (show (none : Option String) = some E from h) (fun z => nomatch z) | exact Or.inl ((Option.some.inj h).symm) | exact Or.inr (((Option.some.inj h).symm)) | exact Or.inl (tE_needRange (Z := Z) (S := S) h)
set_option maxHeartbeats 4000000 in
set_option maxRecDepth 100000 in
theorem cL_passw (G : GX) (hst : G.1.stackTraces = false) (Z : XZ) (S : XS) (b : Nat) (f : Nat → Int64) (uk : Int32) (hWZ : WZ Z) (hC : CW Z S) : FH G yL_pass cL_pass 4 (some .int) [(0, 9, 12, 13), (0, 9, 15, 15)] { frames := 8, cells := 2, slots := 12, locals := 174 } [.ref (Z.A 0 0), .int uk, .ref b] (jn (xW G.2.2.2 G.2.1 Z S) (oW G.2.2.2 b f)) (poL G.2.2.2 (xW G.2.2.2 G.2.1 Z S) b f cvI (pvx (X_pass Z S uk).1 (.int (X_pass Z S uk).2.1) (xW G.2.2.2 G.2.1 Z (X_pass Z S uk).2.2)) (px (X_pass Z S uk).1 (xW G.2.2.2 G.2.1 Z S)) (cdL EIAE EISE)) := by
  refine FH.go (lv := [(0, .ref (Z.A 0 0)), (1, .int uk), (2, .ref b)]) (by decide) (Nat.le_of_ble_eq_true rfl) rfl (fun p e s m args below meth c A H locs ls Q hx hb hr hts hown hml hlocks htab hK hE hI hA hl hQ => ?_)
  have hown : s.vm.findClass "IcehighwayLaw" = some m.cls := hown
  refine lv_aload_n hx hb dL_pass_0 rfl (lv_at hl 2 rfl) ?_
  refine lv_iconst (v := 0) hx hb dL_pass_1 (by decide) ?_
  refine lv_aload_n hx hb dL_pass_2 rfl (lv_at hl 0 rfl) ?_
  refine lv_iload_n hx hb dL_pass_3 rfl (lv_at hl 1 rfl) ?_
  refine jx_xcallV (rest := [.int 0, .ref b]) (as := [.int uk]) hx hb hml hts hown hK hE Dj_oW hI (cX_pass G hst Z S uk hWZ hC) kLX_62 ⟨(Nat.le_of_ble_eq_true rfl), (Nat.le_of_ble_eq_true rfl)⟩ (kk := 0) (ii := 0) (xW0 (by decide)) rfl rfl hl.1 (Nat.le_of_ble_eq_true rfl) dL_pass_4 ⟨(Nat.le_of_ble_eq_true rfl), (Nat.le_of_ble_eq_true rfl)⟩ (fun E ce q9 w' H locs hp hI g1 g2 g3 => ?_) (fun v w' H locs hp hI => ?_)
  · obtain ⟨hpT, rfl⟩ := hp
    have hE9 := tE_pass hpT
    rcases hE9 with rfl | rfl
    · refine jx_catch hts hown hE htab [] (0, 9, 12, 13) [(0, 9, 15, 15)] rfl (fun z hz => by cases hz) (by decide) (by decide) q103 q114 g1 g2 g3 ?_
      refine lv_astore_n (lv' := [(3, .ref q9), (0, .ref (Z.A 0 0)), (1, .int uk), (2, .ref b)]) hx hb dL_pass_12 rfl hl (by decide) rfl (fun ls hl => ?_)
      refine lv_iconst (v := 1) hx hb dL_pass_13 (by decide) ?_
      exact rx_i hx hb hr hlocks hI hA hQ (Or.inr ⟨EIAE, ⟨hpT, rfl⟩, congrArg (fun z => some (Value.int z)) cdL_1.symm, rfl⟩) (Nat.le_of_ble_eq_true rfl) (Nat.le_of_ble_eq_true rfl) dL_pass_14
    · refine jx_catch hts hown hE htab [(0, 9, 12, 13)] (0, 9, 15, 15) [] rfl (fun z hz => by
      simp only [List.mem_cons, List.not_mem_nil, or_false] at hz
      subst hz
      · exact ⟨by decide, _, q103, by decide⟩) (by decide) (by decide) q104 q201 g1 g2 g3 ?_
      refine lv_astore_n (lv' := [(3, .ref q9), (0, .ref (Z.A 0 0)), (1, .int uk), (2, .ref b)]) hx hb dL_pass_15 rfl hl (by decide) rfl (fun ls hl => ?_)
      refine lv_iconst (v := 2) hx hb dL_pass_16 (by decide) ?_
      exact rx_i hx hb hr hlocks hI hA hQ (Or.inr ⟨EISE, ⟨hpT, rfl⟩, congrArg (fun z => some (Value.int z)) (cdL_2 (by decide)).symm, rfl⟩) (Nat.le_of_ble_eq_true rfl) (Nat.le_of_ble_eq_true rfl) dL_pass_17
  · have hp2 := hp
    obtain ⟨hT, rfl, rfl⟩ := hp
    refine lv_i2l hx hb dL_pass_7 rfl ?_
    refine fx_last (k := 10) (j := 0) (n := 1) hx hb hK hI oW_s (i := 0) (by unfold vp_in; decide) oW_u dL_pass_8 (fun H locs hI => ?_)
    refine lv_goto (tgt := 18) hx hb dL_pass_9 (by decide) ?_
    refine lv_iconst (v := 0) hx hb dL_pass_18 (by decide) ?_
    exact rx_i hx hb hr hlocks hI hA hQ (Or.inl ⟨_, _, hp2, rfl, rfl⟩) (Nat.le_of_ble_eq_true rfl) (Nat.le_of_ble_eq_true rfl) dL_pass_19
theorem kH_told : CkH "IcehighwayLaw" 160 yL_told cL_told 5 (some .int) [(0, 10, 13, 27), (0, 10, 17, 13)] 4 := ⟨q677, q675, q676, q0, by decide +kernel⟩
theorem kLX_65 : CkV "IcehighwayLaw" 65 yX3_told cX3_told 4 (some .int) 2 := ⟨q681, q678, q679, q680, q1, by decide +kernel⟩
set_option maxHeartbeats 4000000 in
theorem tE_told {Z : XZ} {S : XS} {up : Int32} {uk : Int32} {E : String} (h : (X_told Z S up uk).1 = some E) : E = EIOB ∨ E = EIAE := by
  unfold X_told at h
  try dsimp only at h
  (repeat' split at h) <;> first | exact absurd (show (none : Option String) = some E from h) (fun z => nomatch z) | exact Or.inl ((Option.some.inj h).symm) | exact Or.inr (((Option.some.inj h).symm)) | exact Or.inr ((tE_needRange (Z := Z) (S := S) h)) | exact Or.inl (tE_needGoods (Z := Z) (S := S) h) | exact Or.inl (tE_pieceNumbered (Z := Z) (S := S) h) | exact Or.inl (tE_vehicleNumbered (Z := Z) (S := S) h)
set_option maxHeartbeats 4000000 in
set_option maxRecDepth 100000 in
theorem cL_toldw (G : GX) (hst : G.1.stackTraces = false) (Z : XZ) (S : XS) (b : Nat) (f : Nat → Int64) (up : Int32) (uk : Int32) (hWZ : WZ Z) : FH G yL_told cL_told 5 (some .int) [(0, 10, 13, 27), (0, 10, 17, 13)] { frames := 8, cells := 2, slots := 12, locals := 127 } [.ref (Z.A 0 0), .int up, .int uk, .ref b] (jn (xW G.2.2.2 G.2.1 Z S) (oW G.2.2.2 b f)) (poL G.2.2.2 (xW G.2.2.2 G.2.1 Z S) b f cvI (pvx (X_told Z S up uk).1 (.int (X_told Z S up uk).2) (xW G.2.2.2 G.2.1 Z S)) (px (X_told Z S up uk).1 (xW G.2.2.2 G.2.1 Z S)) (cdL EIOB EIAE)) := by
  refine FH.go (lv := [(0, .ref (Z.A 0 0)), (1, .int up), (2, .int uk), (3, .ref b)]) (by decide) (Nat.le_of_ble_eq_true rfl) rfl (fun p e s m args below meth c A H locs ls Q hx hb hr hts hown hml hlocks htab hK hE hI hA hl hQ => ?_)
  have hown : s.vm.findClass "IcehighwayLaw" = some m.cls := hown
  refine lv_aload_n hx hb dL_told_0 rfl (lv_at hl 3 rfl) ?_
  refine lv_iconst (v := 0) hx hb dL_told_1 (by decide) ?_
  refine lv_aload_n hx hb dL_told_2 rfl (lv_at hl 0 rfl) ?_
  refine lv_iload_n hx hb dL_told_3 rfl (lv_at hl 1 rfl) ?_
  refine lv_iload_n hx hb dL_told_4 rfl (lv_at hl 2 rfl) ?_
  refine jx_xcallV (rest := [.int 0, .ref b]) (as := [.int up, .int uk]) hx hb hml hts hown hK hE Dj_oW hI (cX_told G hst Z S up uk hWZ) kLX_65 ⟨(Nat.le_of_ble_eq_true rfl), (Nat.le_of_ble_eq_true rfl)⟩ (kk := 0) (ii := 0) (xW0 (by decide)) rfl rfl hl.1 (Nat.le_of_ble_eq_true rfl) dL_told_5 ⟨(Nat.le_of_ble_eq_true rfl), (Nat.le_of_ble_eq_true rfl)⟩ (fun E ce q9 w' H locs hp hI g1 g2 g3 => ?_) (fun v w' H locs hp hI => ?_)
  · obtain ⟨hpT, rfl⟩ := hp
    have hE9 := tE_told hpT
    rcases hE9 with rfl | rfl
    · refine jx_catch hts hown hE htab [] (0, 10, 13, 27) [(0, 10, 17, 13)] rfl (fun z hz => by cases hz) (by decide) (by decide) q378 q389 g1 g2 g3 ?_
      refine lv_astore (lv' := [(4, .ref q9), (0, .ref (Z.A 0 0)), (1, .int up), (2, .int uk), (3, .ref b)]) hx hb dL_told_13 hl (by decide) rfl (fun ls hl => ?_)
      refine lv_iconst (v := 1) hx hb dL_told_15 (by decide) ?_
      exact rx_i hx hb hr hlocks hI hA hQ (Or.inr ⟨EIOB, ⟨hpT, rfl⟩, congrArg (fun z => some (Value.int z)) cdL_1.symm, rfl⟩) (Nat.le_of_ble_eq_true rfl) (Nat.le_of_ble_eq_true rfl) dL_told_16
    · refine jx_catch hts hown hE htab [(0, 10, 13, 27)] (0, 10, 17, 13) [] rfl (fun z hz => by
      simp only [List.mem_cons, List.not_mem_nil, or_false] at hz
      subst hz
      · exact ⟨by decide, _, q378, by decide⟩) (by decide) (by decide) q103 q114 g1 g2 g3 ?_
      refine lv_astore (lv' := [(4, .ref q9), (0, .ref (Z.A 0 0)), (1, .int up), (2, .int uk), (3, .ref b)]) hx hb dL_told_17 hl (by decide) rfl (fun ls hl => ?_)
      refine lv_iconst (v := 2) hx hb dL_told_19 (by decide) ?_
      exact rx_i hx hb hr hlocks hI hA hQ (Or.inr ⟨EIAE, ⟨hpT, rfl⟩, congrArg (fun z => some (Value.int z)) (cdL_2 (by decide)).symm, rfl⟩) (Nat.le_of_ble_eq_true rfl) (Nat.le_of_ble_eq_true rfl) dL_told_20
  · have hp2 := hp
    obtain ⟨hT, rfl, rfl⟩ := hp
    refine lv_i2l hx hb dL_told_8 rfl ?_
    refine fx_last (k := 10) (j := 0) (n := 1) hx hb hK hI oW_s (i := 0) (by unfold vp_in; decide) oW_u dL_told_9 (fun H locs hI => ?_)
    refine lv_goto (tgt := 21) hx hb dL_told_10 (by decide) ?_
    refine lv_iconst (v := 0) hx hb dL_told_21 (by decide) ?_
    exact rx_i hx hb hr hlocks hI hA hQ (Or.inl ⟨_, _, hp2, rfl, rfl⟩) (Nat.le_of_ble_eq_true rfl) (Nat.le_of_ble_eq_true rfl) dL_told_22
theorem kH_thickness : CkH "IcehighwayLaw" 163 yL_thickness cL_thickness 5 (some .int) [(0, 9, 12, 27)] 4 := ⟨q684, q682, q683, q0, by decide +kernel⟩
theorem kLX_68 : CkV "IcehighwayLaw" 68 yX3_thickness cX3_thickness 3 (some .double) 2 := ⟨q688, q685, q686, q687, q1, by decide +kernel⟩
set_option maxHeartbeats 4000000 in
theorem tE_thickness {Z : XZ} {S : XS} {up : Int32} {ub : Int32} {E : String} (h : (X_thickness Z S up ub).1 = some E) : E = EIOB := by
  unfold X_thickness at h
  try dsimp only at h
  (repeat' split at h) <;> first | exact absurd (show (none : Option String) = some E from h) (fun z => nomatch z) | exact (Option.some.inj h).symm | exact tE_needGoods (Z := Z) (S := S) h | exact tE_pieceNumbered (Z := Z) (S := S) h | exact tE_vehicleNumbered (Z := Z) (S := S) h
set_option maxHeartbeats 4000000 in
set_option maxRecDepth 100000 in
theorem cL_thicknessw (G : GX) (hst : G.1.stackTraces = false) (Z : XZ) (S : XS) (b : Nat) (f : Nat → UInt64) (up : Int32) (ub : Int32) (hWZ : WZ Z) : FH G yL_thickness cL_thickness 5 (some .int) [(0, 9, 12, 27)] { frames := 8, cells := 1, slots := 6, locals := 125 } [.ref (Z.A 0 0), .int up, .int ub, .ref b] (jn (xW G.2.2.2 G.2.1 Z S) (oD G.2.2.2 b f)) (poD G.2.2.2 (xW G.2.2.2 G.2.1 Z S) b f cvD (pvx (X_thickness Z S up ub).1 (.double (X_thickness Z S up ub).2) (xW G.2.2.2 G.2.1 Z S)) (px (X_thickness Z S up ub).1 (xW G.2.2.2 G.2.1 Z S)) (cdL EIOB "")) := by
  refine FH.go (lv := [(0, .ref (Z.A 0 0)), (1, .int up), (2, .int ub), (3, .ref b)]) (by decide) (Nat.le_of_ble_eq_true rfl) rfl (fun p e s m args below meth c A H locs ls Q hx hb hr hts hown hml hlocks htab hK hE hI hA hl hQ => ?_)
  have hown : s.vm.findClass "IcehighwayLaw" = some m.cls := hown
  refine lv_aload_n hx hb dL_thickness_0 rfl (lv_at hl 3 rfl) ?_
  refine lv_iconst (v := 0) hx hb dL_thickness_1 (by decide) ?_
  refine lv_aload_n hx hb dL_thickness_2 rfl (lv_at hl 0 rfl) ?_
  refine lv_iload_n hx hb dL_thickness_3 rfl (lv_at hl 1 rfl) ?_
  refine lv_iload_n hx hb dL_thickness_4 rfl (lv_at hl 2 rfl) ?_
  refine jx_xcallV (rest := [.int 0, .ref b]) (as := [.int up, .int ub]) hx hb hml hts hown hK hE Dj_oD hI (cX_thickness G hst Z S up ub hWZ) kLX_68 ⟨(Nat.le_of_ble_eq_true rfl), (Nat.le_of_ble_eq_true rfl)⟩ (kk := 0) (ii := 0) (xW0 (by decide)) rfl rfl hl.1 (Nat.le_of_ble_eq_true rfl) dL_thickness_5 ⟨(Nat.le_of_ble_eq_true rfl), (Nat.le_of_ble_eq_true rfl)⟩ (fun E ce q9 w' H locs hp hI g1 g2 g3 => ?_) (fun v w' H locs hp hI => ?_)
  · obtain ⟨hpT, rfl⟩ := hp
    have hE9 := tE_thickness hpT
    subst hE9
    refine jx_catch hts hown hE htab [] (0, 9, 12, 27) [] rfl (fun z hz => by cases hz) (by decide) (by decide) q378 q389 g1 g2 g3 ?_
    refine lv_astore (lv' := [(4, .ref q9), (0, .ref (Z.A 0 0)), (1, .int up), (2, .int ub), (3, .ref b)]) hx hb dL_thickness_12 hl (by decide) rfl (fun ls hl => ?_)
    refine lv_iconst (v := 1) hx hb dL_thickness_14 (by decide) ?_
    exact rx_i hx hb hr hlocks hI hA hQ (Or.inr ⟨EIOB, ⟨hpT, rfl⟩, congrArg (fun z => some (Value.int z)) cdL_1.symm, rfl⟩) (Nat.le_of_ble_eq_true rfl) (Nat.le_of_ble_eq_true rfl) dL_thickness_15
  · have hp2 := hp
    obtain ⟨hT, rfl, rfl⟩ := hp
    refine fx_dast (k := 11) (j := 0) (n := 1) hx hb hK hI oD_s (i := 0) (by unfold vp_in; decide) oD_u dL_thickness_8 (fun H locs hI => ?_)
    refine lv_goto (tgt := 16) hx hb dL_thickness_9 (by decide) ?_
    refine lv_iconst (v := 0) hx hb dL_thickness_16 (by decide) ?_
    exact rx_i hx hb hr hlocks hI hA hQ (Or.inl ⟨_, _, hp2, rfl, rfl⟩) (Nat.le_of_ble_eq_true rfl) (Nat.le_of_ble_eq_true rfl) dL_thickness_17
theorem kH_bears : CkH "IcehighwayLaw" 167 yL_bears cL_bears 5 (some .int) [(0, 10, 13, 27)] 4 := ⟨q692, q690, q691, q0, by decide +kernel⟩
theorem kLX_72 : CkV "IcehighwayLaw" 72 yX3_bears cX3_bears 3 (some .int) 2 := ⟨q696, q693, q694, q695, q1, by decide +kernel⟩
set_option maxHeartbeats 4000000 in
theorem tE_bears {Z : XZ} {S : XS} {up : Int32} {ub : Int32} {E : String} (h : (X_bears Z S up ub).1 = some E) : E = EIOB := by
  unfold X_bears at h
  try dsimp only at h
  (repeat' split at h) <;> first | exact absurd (show (none : Option String) = some E from h) (fun z => nomatch z) | exact (Option.some.inj h).symm | exact tE_needGoods (Z := Z) (S := S) h | exact tE_pieceNumbered (Z := Z) (S := S) h | exact tE_vehicleNumbered (Z := Z) (S := S) h
set_option maxHeartbeats 4000000 in
set_option maxRecDepth 100000 in
theorem cL_bearsw (G : GX) (hst : G.1.stackTraces = false) (Z : XZ) (S : XS) (b : Nat) (f : Nat → Int64) (up : Int32) (ub : Int32) (hWZ : WZ Z) : FH G yL_bears cL_bears 5 (some .int) [(0, 10, 13, 27)] { frames := 8, cells := 1, slots := 6, locals := 125 } [.ref (Z.A 0 0), .int up, .int ub, .ref b] (jn (xW G.2.2.2 G.2.1 Z S) (oW G.2.2.2 b f)) (poL G.2.2.2 (xW G.2.2.2 G.2.1 Z S) b f cvI (pvx (X_bears Z S up ub).1 (.int (X_bears Z S up ub).2) (xW G.2.2.2 G.2.1 Z S)) (px (X_bears Z S up ub).1 (xW G.2.2.2 G.2.1 Z S)) (cdL EIOB "")) := by
  refine FH.go (lv := [(0, .ref (Z.A 0 0)), (1, .int up), (2, .int ub), (3, .ref b)]) (by decide) (Nat.le_of_ble_eq_true rfl) rfl (fun p e s m args below meth c A H locs ls Q hx hb hr hts hown hml hlocks htab hK hE hI hA hl hQ => ?_)
  have hown : s.vm.findClass "IcehighwayLaw" = some m.cls := hown
  refine lv_aload_n hx hb dL_bears_0 rfl (lv_at hl 3 rfl) ?_
  refine lv_iconst (v := 0) hx hb dL_bears_1 (by decide) ?_
  refine lv_aload_n hx hb dL_bears_2 rfl (lv_at hl 0 rfl) ?_
  refine lv_iload_n hx hb dL_bears_3 rfl (lv_at hl 1 rfl) ?_
  refine lv_iload_n hx hb dL_bears_4 rfl (lv_at hl 2 rfl) ?_
  refine jx_xcallV (rest := [.int 0, .ref b]) (as := [.int up, .int ub]) hx hb hml hts hown hK hE Dj_oW hI (cX_bears G hst Z S up ub hWZ) kLX_72 ⟨(Nat.le_of_ble_eq_true rfl), (Nat.le_of_ble_eq_true rfl)⟩ (kk := 0) (ii := 0) (xW0 (by decide)) rfl rfl hl.1 (Nat.le_of_ble_eq_true rfl) dL_bears_5 ⟨(Nat.le_of_ble_eq_true rfl), (Nat.le_of_ble_eq_true rfl)⟩ (fun E ce q9 w' H locs hp hI g1 g2 g3 => ?_) (fun v w' H locs hp hI => ?_)
  · obtain ⟨hpT, rfl⟩ := hp
    have hE9 := tE_bears hpT
    subst hE9
    refine jx_catch hts hown hE htab [] (0, 10, 13, 27) [] rfl (fun z hz => by cases hz) (by decide) (by decide) q378 q389 g1 g2 g3 ?_
    refine lv_astore (lv' := [(4, .ref q9), (0, .ref (Z.A 0 0)), (1, .int up), (2, .int ub), (3, .ref b)]) hx hb dL_bears_13 hl (by decide) rfl (fun ls hl => ?_)
    refine lv_iconst (v := 1) hx hb dL_bears_15 (by decide) ?_
    exact rx_i hx hb hr hlocks hI hA hQ (Or.inr ⟨EIOB, ⟨hpT, rfl⟩, congrArg (fun z => some (Value.int z)) cdL_1.symm, rfl⟩) (Nat.le_of_ble_eq_true rfl) (Nat.le_of_ble_eq_true rfl) dL_bears_16
  · have hp2 := hp
    obtain ⟨hT, rfl, rfl⟩ := hp
    refine lv_i2l hx hb dL_bears_8 rfl ?_
    refine fx_last (k := 10) (j := 0) (n := 1) hx hb hK hI oW_s (i := 0) (by unfold vp_in; decide) oW_u dL_bears_9 (fun H locs hI => ?_)
    refine lv_goto (tgt := 17) hx hb dL_bears_10 (by decide) ?_
    refine lv_iconst (v := 0) hx hb dL_bears_17 (by decide) ?_
    exact rx_i hx hb hr hlocks hI hA hQ (Or.inl ⟨_, _, hp2, rfl, rfl⟩) (Nat.le_of_ble_eq_true rfl) (Nat.le_of_ble_eq_true rfl) dL_bears_18
theorem kH_ofVehicle : CkH "IcehighwayLaw" 171 yL_ofVehicle cL_ofVehicle 5 (some .int) [(0, 10, 13, 27), (0, 10, 17, 13)] 4 := ⟨q699, q697, q698, q0, by decide +kernel⟩
theorem kLX_76 : CkV "IcehighwayLaw" 76 yX3_ofVehicle cX3_ofVehicle 4 (some .int) 2 := ⟨q703, q700, q701, q702, q1, by decide +kernel⟩
set_option maxHeartbeats 4000000 in
theorem tE_ofVehicle {Z : XZ} {S : XS} {uv : Int32} {uk : Int32} {E : String} (h : (X_ofVehicle Z S uv uk).1 = some E) : E = EIOB ∨ E = EIAE := by
  unfold X_ofVehicle at h
  try dsimp only at h
  (repeat' split at h) <;> first | exact absurd (show (none : Option String) = some E from h) (fun z => nomatch z) | exact Or.inl ((Option.some.inj h).symm) | exact Or.inr (((Option.some.inj h).symm)) | exact Or.inr ((tE_needRange (Z := Z) (S := S) h)) | exact Or.inl (tE_needGoods (Z := Z) (S := S) h) | exact Or.inl (tE_pieceNumbered (Z := Z) (S := S) h) | exact Or.inl (tE_vehicleNumbered (Z := Z) (S := S) h)
set_option maxHeartbeats 4000000 in
set_option maxRecDepth 100000 in
theorem cL_ofVehiclew (G : GX) (hst : G.1.stackTraces = false) (Z : XZ) (S : XS) (b : Nat) (f : Nat → Int64) (uv : Int32) (uk : Int32) (hWZ : WZ Z) (hC : CW Z S) : FH G yL_ofVehicle cL_ofVehicle 5 (some .int) [(0, 10, 13, 27), (0, 10, 17, 13)] { frames := 8, cells := 2, slots := 12, locals := 127 } [.ref (Z.A 0 0), .int uv, .int uk, .ref b] (jn (xW G.2.2.2 G.2.1 Z S) (oW G.2.2.2 b f)) (poL G.2.2.2 (xW G.2.2.2 G.2.1 Z S) b f cvI (pvx (X_ofVehicle Z S uv uk).1 (.int (X_ofVehicle Z S uv uk).2) (xW G.2.2.2 G.2.1 Z S)) (px (X_ofVehicle Z S uv uk).1 (xW G.2.2.2 G.2.1 Z S)) (cdL EIOB EIAE)) := by
  refine FH.go (lv := [(0, .ref (Z.A 0 0)), (1, .int uv), (2, .int uk), (3, .ref b)]) (by decide) (Nat.le_of_ble_eq_true rfl) rfl (fun p e s m args below meth c A H locs ls Q hx hb hr hts hown hml hlocks htab hK hE hI hA hl hQ => ?_)
  have hown : s.vm.findClass "IcehighwayLaw" = some m.cls := hown
  refine lv_aload_n hx hb dL_ofVehicle_0 rfl (lv_at hl 3 rfl) ?_
  refine lv_iconst (v := 0) hx hb dL_ofVehicle_1 (by decide) ?_
  refine lv_aload_n hx hb dL_ofVehicle_2 rfl (lv_at hl 0 rfl) ?_
  refine lv_iload_n hx hb dL_ofVehicle_3 rfl (lv_at hl 1 rfl) ?_
  refine lv_iload_n hx hb dL_ofVehicle_4 rfl (lv_at hl 2 rfl) ?_
  refine jx_xcallV (rest := [.int 0, .ref b]) (as := [.int uv, .int uk]) hx hb hml hts hown hK hE Dj_oW hI (cX_ofVehicle G hst Z S uv uk hWZ hC) kLX_76 ⟨(Nat.le_of_ble_eq_true rfl), (Nat.le_of_ble_eq_true rfl)⟩ (kk := 0) (ii := 0) (xW0 (by decide)) rfl rfl hl.1 (Nat.le_of_ble_eq_true rfl) dL_ofVehicle_5 ⟨(Nat.le_of_ble_eq_true rfl), (Nat.le_of_ble_eq_true rfl)⟩ (fun E ce q9 w' H locs hp hI g1 g2 g3 => ?_) (fun v w' H locs hp hI => ?_)
  · obtain ⟨hpT, rfl⟩ := hp
    have hE9 := tE_ofVehicle hpT
    rcases hE9 with rfl | rfl
    · refine jx_catch hts hown hE htab [] (0, 10, 13, 27) [(0, 10, 17, 13)] rfl (fun z hz => by cases hz) (by decide) (by decide) q378 q389 g1 g2 g3 ?_
      refine lv_astore (lv' := [(4, .ref q9), (0, .ref (Z.A 0 0)), (1, .int uv), (2, .int uk), (3, .ref b)]) hx hb dL_ofVehicle_13 hl (by decide) rfl (fun ls hl => ?_)
      refine lv_iconst (v := 1) hx hb dL_ofVehicle_15 (by decide) ?_
      exact rx_i hx hb hr hlocks hI hA hQ (Or.inr ⟨EIOB, ⟨hpT, rfl⟩, congrArg (fun z => some (Value.int z)) cdL_1.symm, rfl⟩) (Nat.le_of_ble_eq_true rfl) (Nat.le_of_ble_eq_true rfl) dL_ofVehicle_16
    · refine jx_catch hts hown hE htab [(0, 10, 13, 27)] (0, 10, 17, 13) [] rfl (fun z hz => by
      simp only [List.mem_cons, List.not_mem_nil, or_false] at hz
      subst hz
      · exact ⟨by decide, _, q378, by decide⟩) (by decide) (by decide) q103 q114 g1 g2 g3 ?_
      refine lv_astore (lv' := [(4, .ref q9), (0, .ref (Z.A 0 0)), (1, .int uv), (2, .int uk), (3, .ref b)]) hx hb dL_ofVehicle_17 hl (by decide) rfl (fun ls hl => ?_)
      refine lv_iconst (v := 2) hx hb dL_ofVehicle_19 (by decide) ?_
      exact rx_i hx hb hr hlocks hI hA hQ (Or.inr ⟨EIAE, ⟨hpT, rfl⟩, congrArg (fun z => some (Value.int z)) (cdL_2 (by decide)).symm, rfl⟩) (Nat.le_of_ble_eq_true rfl) (Nat.le_of_ble_eq_true rfl) dL_ofVehicle_20
  · have hp2 := hp
    obtain ⟨hT, rfl, rfl⟩ := hp
    refine lv_i2l hx hb dL_ofVehicle_8 rfl ?_
    refine fx_last (k := 10) (j := 0) (n := 1) hx hb hK hI oW_s (i := 0) (by unfold vp_in; decide) oW_u dL_ofVehicle_9 (fun H locs hI => ?_)
    refine lv_goto (tgt := 21) hx hb dL_ofVehicle_10 (by decide) ?_
    refine lv_iconst (v := 0) hx hb dL_ofVehicle_21 (by decide) ?_
    exact rx_i hx hb hr hlocks hI hA hQ (Or.inl ⟨_, _, hp2, rfl, rfl⟩) (Nat.le_of_ble_eq_true rfl) (Nat.le_of_ble_eq_true rfl) dL_ofVehicle_22
theorem kH_why : CkH "IcehighwayLaw" 174 yL_why cL_why 4 (some .int) [(0, 9, 12, 27)] 3 := ⟨q706, q704, q705, q0, by decide +kernel⟩
theorem kLX_79 : CkV "IcehighwayLaw" 79 yX3_why cX3_why 3 (some .int) 1 := ⟨q710, q707, q708, q709, q1, by decide +kernel⟩
set_option maxHeartbeats 4000000 in
theorem tE_why {Z : XZ} {S : XS} {uv : Int32} {E : String} (h : (X_why Z S uv).1 = some E) : E = EIOB := by
  unfold X_why at h
  try dsimp only at h
  (repeat' split at h) <;> first | exact absurd (show (none : Option String) = some E from h) (fun z => nomatch z) | exact (Option.some.inj h).symm | exact tE_needGoods (Z := Z) (S := S) h | exact tE_pieceNumbered (Z := Z) (S := S) h | exact tE_vehicleNumbered (Z := Z) (S := S) h
set_option maxHeartbeats 4000000 in
set_option maxRecDepth 100000 in
theorem cL_whyw (G : GX) (hst : G.1.stackTraces = false) (Z : XZ) (S : XS) (b : Nat) (f : Nat → Int64) (uv : Int32) (hWZ : WZ Z) (hC : CW Z S) : FH G yL_why cL_why 4 (some .int) [(0, 9, 12, 27)] { frames := 8, cells := 1, slots := 6, locals := 132 } [.ref (Z.A 0 0), .int uv, .ref b] (jn (xW G.2.2.2 G.2.1 Z S) (oW G.2.2.2 b f)) (poL G.2.2.2 (xW G.2.2.2 G.2.1 Z S) b f cvI (pvx (X_why Z S uv).1 (.int (X_why Z S uv).2) (xW G.2.2.2 G.2.1 Z S)) (px (X_why Z S uv).1 (xW G.2.2.2 G.2.1 Z S)) (cdL EIOB "")) := by
  refine FH.go (lv := [(0, .ref (Z.A 0 0)), (1, .int uv), (2, .ref b)]) (by decide) (Nat.le_of_ble_eq_true rfl) rfl (fun p e s m args below meth c A H locs ls Q hx hb hr hts hown hml hlocks htab hK hE hI hA hl hQ => ?_)
  have hown : s.vm.findClass "IcehighwayLaw" = some m.cls := hown
  refine lv_aload_n hx hb dL_why_0 rfl (lv_at hl 2 rfl) ?_
  refine lv_iconst (v := 0) hx hb dL_why_1 (by decide) ?_
  refine lv_aload_n hx hb dL_why_2 rfl (lv_at hl 0 rfl) ?_
  refine lv_iload_n hx hb dL_why_3 rfl (lv_at hl 1 rfl) ?_
  refine jx_xcallV (rest := [.int 0, .ref b]) (as := [.int uv]) hx hb hml hts hown hK hE Dj_oW hI (cX_why G hst Z S uv hWZ hC) kLX_79 ⟨(Nat.le_of_ble_eq_true rfl), (Nat.le_of_ble_eq_true rfl)⟩ (kk := 0) (ii := 0) (xW0 (by decide)) rfl rfl hl.1 (Nat.le_of_ble_eq_true rfl) dL_why_4 ⟨(Nat.le_of_ble_eq_true rfl), (Nat.le_of_ble_eq_true rfl)⟩ (fun E ce q9 w' H locs hp hI g1 g2 g3 => ?_) (fun v w' H locs hp hI => ?_)
  · obtain ⟨hpT, rfl⟩ := hp
    have hE9 := tE_why hpT
    subst hE9
    refine jx_catch hts hown hE htab [] (0, 9, 12, 27) [] rfl (fun z hz => by cases hz) (by decide) (by decide) q378 q389 g1 g2 g3 ?_
    refine lv_astore_n (lv' := [(3, .ref q9), (0, .ref (Z.A 0 0)), (1, .int uv), (2, .ref b)]) hx hb dL_why_12 rfl hl (by decide) rfl (fun ls hl => ?_)
    refine lv_iconst (v := 1) hx hb dL_why_13 (by decide) ?_
    exact rx_i hx hb hr hlocks hI hA hQ (Or.inr ⟨EIOB, ⟨hpT, rfl⟩, congrArg (fun z => some (Value.int z)) cdL_1.symm, rfl⟩) (Nat.le_of_ble_eq_true rfl) (Nat.le_of_ble_eq_true rfl) dL_why_14
  · have hp2 := hp
    obtain ⟨hT, rfl, rfl⟩ := hp
    refine lv_i2l hx hb dL_why_7 rfl ?_
    refine fx_last (k := 10) (j := 0) (n := 1) hx hb hK hI oW_s (i := 0) (by unfold vp_in; decide) oW_u dL_why_8 (fun H locs hI => ?_)
    refine lv_goto (tgt := 15) hx hb dL_why_9 (by decide) ?_
    refine lv_iconst (v := 0) hx hb dL_why_15 (by decide) ?_
    exact rx_i hx hb hr hlocks hI hA hQ (Or.inl ⟨_, _, hp2, rfl, rfl⟩) (Nat.le_of_ble_eq_true rfl) (Nat.le_of_ble_eq_true rfl) dL_why_16
theorem kH_speed : CkH "IcehighwayLaw" 177 yL_speed cL_speed 5 (some .int) [(0, 10, 13, 27)] 4 := ⟨q713, q711, q712, q0, by decide +kernel⟩
theorem kLX_82 : CkV "IcehighwayLaw" 82 yX3_speed cX3_speed 3 (some .int) 2 := ⟨q717, q714, q715, q716, q1, by decide +kernel⟩
set_option maxHeartbeats 4000000 in
theorem tE_speed {Z : XZ} {S : XS} {uv : Int32} {up : Int32} {E : String} (h : (X_speed Z S uv up).1 = some E) : E = EIOB := by
  unfold X_speed at h
  try dsimp only at h
  (repeat' split at h) <;> first | exact absurd (show (none : Option String) = some E from h) (fun z => nomatch z) | exact (Option.some.inj h).symm | exact tE_needGoods (Z := Z) (S := S) h | exact tE_pieceNumbered (Z := Z) (S := S) h | exact tE_vehicleNumbered (Z := Z) (S := S) h
set_option maxHeartbeats 4000000 in
set_option maxRecDepth 100000 in
theorem cL_speedw (G : GX) (hst : G.1.stackTraces = false) (Z : XZ) (S : XS) (b : Nat) (f : Nat → Int64) (uv : Int32) (up : Int32) (hWZ : WZ Z) : FH G yL_speed cL_speed 5 (some .int) [(0, 10, 13, 27)] { frames := 8, cells := 2, slots := 12, locals := 125 } [.ref (Z.A 0 0), .int uv, .int up, .ref b] (jn (xW G.2.2.2 G.2.1 Z S) (oW G.2.2.2 b f)) (poL G.2.2.2 (xW G.2.2.2 G.2.1 Z S) b f cvI (pvx (X_speed Z S uv up).1 (.int (X_speed Z S uv up).2) (xW G.2.2.2 G.2.1 Z S)) (px (X_speed Z S uv up).1 (xW G.2.2.2 G.2.1 Z S)) (cdL EIOB "")) := by
  refine FH.go (lv := [(0, .ref (Z.A 0 0)), (1, .int uv), (2, .int up), (3, .ref b)]) (by decide) (Nat.le_of_ble_eq_true rfl) rfl (fun p e s m args below meth c A H locs ls Q hx hb hr hts hown hml hlocks htab hK hE hI hA hl hQ => ?_)
  have hown : s.vm.findClass "IcehighwayLaw" = some m.cls := hown
  refine lv_aload_n hx hb dL_speed_0 rfl (lv_at hl 3 rfl) ?_
  refine lv_iconst (v := 0) hx hb dL_speed_1 (by decide) ?_
  refine lv_aload_n hx hb dL_speed_2 rfl (lv_at hl 0 rfl) ?_
  refine lv_iload_n hx hb dL_speed_3 rfl (lv_at hl 1 rfl) ?_
  refine lv_iload_n hx hb dL_speed_4 rfl (lv_at hl 2 rfl) ?_
  refine jx_xcallV (rest := [.int 0, .ref b]) (as := [.int uv, .int up]) hx hb hml hts hown hK hE Dj_oW hI (cX_speed G hst Z S uv up hWZ) kLX_82 ⟨(Nat.le_of_ble_eq_true rfl), (Nat.le_of_ble_eq_true rfl)⟩ (kk := 0) (ii := 0) (xW0 (by decide)) rfl rfl hl.1 (Nat.le_of_ble_eq_true rfl) dL_speed_5 ⟨(Nat.le_of_ble_eq_true rfl), (Nat.le_of_ble_eq_true rfl)⟩ (fun E ce q9 w' H locs hp hI g1 g2 g3 => ?_) (fun v w' H locs hp hI => ?_)
  · obtain ⟨hpT, rfl⟩ := hp
    have hE9 := tE_speed hpT
    subst hE9
    refine jx_catch hts hown hE htab [] (0, 10, 13, 27) [] rfl (fun z hz => by cases hz) (by decide) (by decide) q378 q389 g1 g2 g3 ?_
    refine lv_astore (lv' := [(4, .ref q9), (0, .ref (Z.A 0 0)), (1, .int uv), (2, .int up), (3, .ref b)]) hx hb dL_speed_13 hl (by decide) rfl (fun ls hl => ?_)
    refine lv_iconst (v := 1) hx hb dL_speed_15 (by decide) ?_
    exact rx_i hx hb hr hlocks hI hA hQ (Or.inr ⟨EIOB, ⟨hpT, rfl⟩, congrArg (fun z => some (Value.int z)) cdL_1.symm, rfl⟩) (Nat.le_of_ble_eq_true rfl) (Nat.le_of_ble_eq_true rfl) dL_speed_16
  · have hp2 := hp
    obtain ⟨hT, rfl, rfl⟩ := hp
    refine lv_i2l hx hb dL_speed_8 rfl ?_
    refine fx_last (k := 10) (j := 0) (n := 1) hx hb hK hI oW_s (i := 0) (by unfold vp_in; decide) oW_u dL_speed_9 (fun H locs hI => ?_)
    refine lv_goto (tgt := 17) hx hb dL_speed_10 (by decide) ?_
    refine lv_iconst (v := 0) hx hb dL_speed_17 (by decide) ?_
    exact rx_i hx hb hr hlocks hI hA hQ (Or.inl ⟨_, _, hp2, rfl, rfl⟩) (Nat.le_of_ble_eq_true rfl) (Nat.le_of_ble_eq_true rfl) dL_speed_18
theorem kH_minutes : CkH "IcehighwayLaw" 180 yL_minutes cL_minutes 5 (some .int) [(0, 10, 13, 27)] 4 := ⟨q721, q719, q720, q0, by decide +kernel⟩
theorem kLX_85 : CkV "IcehighwayLaw" 85 yX3_minutes cX3_minutes 3 (some .int) 2 := ⟨q725, q722, q723, q724, q1, by decide +kernel⟩
set_option maxHeartbeats 4000000 in
theorem tE_minutes {Z : XZ} {S : XS} {uv : Int32} {up : Int32} {E : String} (h : (X_minutes Z S uv up).1 = some E) : E = EIOB := by
  unfold X_minutes at h
  try dsimp only at h
  (repeat' split at h) <;> first | exact absurd (show (none : Option String) = some E from h) (fun z => nomatch z) | exact (Option.some.inj h).symm | exact tE_needGoods (Z := Z) (S := S) h | exact tE_pieceNumbered (Z := Z) (S := S) h | exact tE_vehicleNumbered (Z := Z) (S := S) h
set_option maxHeartbeats 4000000 in
set_option maxRecDepth 100000 in
theorem cL_minutesw (G : GX) (hst : G.1.stackTraces = false) (Z : XZ) (S : XS) (b : Nat) (f : Nat → Int64) (uv : Int32) (up : Int32) (hWZ : WZ Z) : FH G yL_minutes cL_minutes 5 (some .int) [(0, 10, 13, 27)] { frames := 8, cells := 2, slots := 12, locals := 125 } [.ref (Z.A 0 0), .int uv, .int up, .ref b] (jn (xW G.2.2.2 G.2.1 Z S) (oW G.2.2.2 b f)) (poL G.2.2.2 (xW G.2.2.2 G.2.1 Z S) b f cvI (pvx (X_minutes Z S uv up).1 (.int (X_minutes Z S uv up).2) (xW G.2.2.2 G.2.1 Z S)) (px (X_minutes Z S uv up).1 (xW G.2.2.2 G.2.1 Z S)) (cdL EIOB "")) := by
  refine FH.go (lv := [(0, .ref (Z.A 0 0)), (1, .int uv), (2, .int up), (3, .ref b)]) (by decide) (Nat.le_of_ble_eq_true rfl) rfl (fun p e s m args below meth c A H locs ls Q hx hb hr hts hown hml hlocks htab hK hE hI hA hl hQ => ?_)
  have hown : s.vm.findClass "IcehighwayLaw" = some m.cls := hown
  refine lv_aload_n hx hb dL_minutes_0 rfl (lv_at hl 3 rfl) ?_
  refine lv_iconst (v := 0) hx hb dL_minutes_1 (by decide) ?_
  refine lv_aload_n hx hb dL_minutes_2 rfl (lv_at hl 0 rfl) ?_
  refine lv_iload_n hx hb dL_minutes_3 rfl (lv_at hl 1 rfl) ?_
  refine lv_iload_n hx hb dL_minutes_4 rfl (lv_at hl 2 rfl) ?_
  refine jx_xcallV (rest := [.int 0, .ref b]) (as := [.int uv, .int up]) hx hb hml hts hown hK hE Dj_oW hI (cX_minutes G hst Z S uv up hWZ) kLX_85 ⟨(Nat.le_of_ble_eq_true rfl), (Nat.le_of_ble_eq_true rfl)⟩ (kk := 0) (ii := 0) (xW0 (by decide)) rfl rfl hl.1 (Nat.le_of_ble_eq_true rfl) dL_minutes_5 ⟨(Nat.le_of_ble_eq_true rfl), (Nat.le_of_ble_eq_true rfl)⟩ (fun E ce q9 w' H locs hp hI g1 g2 g3 => ?_) (fun v w' H locs hp hI => ?_)
  · obtain ⟨hpT, rfl⟩ := hp
    have hE9 := tE_minutes hpT
    subst hE9
    refine jx_catch hts hown hE htab [] (0, 10, 13, 27) [] rfl (fun z hz => by cases hz) (by decide) (by decide) q378 q389 g1 g2 g3 ?_
    refine lv_astore (lv' := [(4, .ref q9), (0, .ref (Z.A 0 0)), (1, .int uv), (2, .int up), (3, .ref b)]) hx hb dL_minutes_13 hl (by decide) rfl (fun ls hl => ?_)
    refine lv_iconst (v := 1) hx hb dL_minutes_15 (by decide) ?_
    exact rx_i hx hb hr hlocks hI hA hQ (Or.inr ⟨EIOB, ⟨hpT, rfl⟩, congrArg (fun z => some (Value.int z)) cdL_1.symm, rfl⟩) (Nat.le_of_ble_eq_true rfl) (Nat.le_of_ble_eq_true rfl) dL_minutes_16
  · have hp2 := hp
    obtain ⟨hT, rfl, rfl⟩ := hp
    refine lv_i2l hx hb dL_minutes_8 rfl ?_
    refine fx_last (k := 10) (j := 0) (n := 1) hx hb hK hI oW_s (i := 0) (by unfold vp_in; decide) oW_u dL_minutes_9 (fun H locs hI => ?_)
    refine lv_goto (tgt := 17) hx hb dL_minutes_10 (by decide) ?_
    refine lv_iconst (v := 0) hx hb dL_minutes_17 (by decide) ?_
    exact rx_i hx hb hr hlocks hI hA hQ (Or.inl ⟨_, _, hp2, rfl, rfl⟩) (Nat.le_of_ble_eq_true rfl) (Nat.le_of_ble_eq_true rfl) dL_minutes_18
theorem kH_minutesAnew : CkH "IcehighwayLaw" 183 yL_minutesAnew cL_minutesAnew 5 (some .int) [(0, 10, 13, 27)] 4 := ⟨q728, q726, q727, q0, by decide +kernel⟩
theorem kLX_88 : CkV "IcehighwayLaw" 88 yX3_minutesAnew cX3_minutesAnew 7 (some .int) 2 := ⟨q732, q729, q730, q731, q1, by decide +kernel⟩
set_option maxHeartbeats 4000000 in
theorem tE_minutesAnew {Z : XZ} {S : XS} {uv : Int32} {up : Int32} {E : String} (h : (X_minutesAnew Z S uv up).1 = some E) : E = EIOB := by
  unfold X_minutesAnew at h
  try dsimp only at h
  (repeat' split at h) <;> first | exact absurd (show (none : Option String) = some E from h) (fun z => nomatch z) | exact (Option.some.inj h).symm | exact tE_needGoods (Z := Z) (S := S) h | exact tE_pieceNumbered (Z := Z) (S := S) h | exact tE_vehicleNumbered (Z := Z) (S := S) h
set_option maxHeartbeats 4000000 in
set_option maxRecDepth 100000 in
theorem cL_minutesAneww (G : GX) (hst : G.1.stackTraces = false) (Z : XZ) (S : XS) (b : Nat) (f : Nat → Int64) (uv : Int32) (up : Int32) (hWZ : WZ Z) : FH G yL_minutesAnew cL_minutesAnew 5 (some .int) [(0, 10, 13, 27)] { frames := 8, cells := 2, slots := 12, locals := 129 } [.ref (Z.A 0 0), .int uv, .int up, .ref b] (jn (xW G.2.2.2 G.2.1 Z S) (oW G.2.2.2 b f)) (poL G.2.2.2 (xW G.2.2.2 G.2.1 Z S) b f cvI (pvx (X_minutesAnew Z S uv up).1 (.int (X_minutesAnew Z S uv up).2) (xW G.2.2.2 G.2.1 Z S)) (px (X_minutesAnew Z S uv up).1 (xW G.2.2.2 G.2.1 Z S)) (cdL EIOB "")) := by
  refine FH.go (lv := [(0, .ref (Z.A 0 0)), (1, .int uv), (2, .int up), (3, .ref b)]) (by decide) (Nat.le_of_ble_eq_true rfl) rfl (fun p e s m args below meth c A H locs ls Q hx hb hr hts hown hml hlocks htab hK hE hI hA hl hQ => ?_)
  have hown : s.vm.findClass "IcehighwayLaw" = some m.cls := hown
  refine lv_aload_n hx hb dL_minutesAnew_0 rfl (lv_at hl 3 rfl) ?_
  refine lv_iconst (v := 0) hx hb dL_minutesAnew_1 (by decide) ?_
  refine lv_aload_n hx hb dL_minutesAnew_2 rfl (lv_at hl 0 rfl) ?_
  refine lv_iload_n hx hb dL_minutesAnew_3 rfl (lv_at hl 1 rfl) ?_
  refine lv_iload_n hx hb dL_minutesAnew_4 rfl (lv_at hl 2 rfl) ?_
  refine jx_xcallV (rest := [.int 0, .ref b]) (as := [.int uv, .int up]) hx hb hml hts hown hK hE Dj_oW hI (cX_minutesAnew G hst Z S uv up hWZ) kLX_88 ⟨(Nat.le_of_ble_eq_true rfl), (Nat.le_of_ble_eq_true rfl)⟩ (kk := 0) (ii := 0) (xW0 (by decide)) rfl rfl hl.1 (Nat.le_of_ble_eq_true rfl) dL_minutesAnew_5 ⟨(Nat.le_of_ble_eq_true rfl), (Nat.le_of_ble_eq_true rfl)⟩ (fun E ce q9 w' H locs hp hI g1 g2 g3 => ?_) (fun v w' H locs hp hI => ?_)
  · obtain ⟨hpT, rfl⟩ := hp
    have hE9 := tE_minutesAnew hpT
    subst hE9
    refine jx_catch hts hown hE htab [] (0, 10, 13, 27) [] rfl (fun z hz => by cases hz) (by decide) (by decide) q378 q389 g1 g2 g3 ?_
    refine lv_astore (lv' := [(4, .ref q9), (0, .ref (Z.A 0 0)), (1, .int uv), (2, .int up), (3, .ref b)]) hx hb dL_minutesAnew_13 hl (by decide) rfl (fun ls hl => ?_)
    refine lv_iconst (v := 1) hx hb dL_minutesAnew_15 (by decide) ?_
    exact rx_i hx hb hr hlocks hI hA hQ (Or.inr ⟨EIOB, ⟨hpT, rfl⟩, congrArg (fun z => some (Value.int z)) cdL_1.symm, rfl⟩) (Nat.le_of_ble_eq_true rfl) (Nat.le_of_ble_eq_true rfl) dL_minutesAnew_16
  · have hp2 := hp
    obtain ⟨hT, rfl, rfl⟩ := hp
    refine lv_i2l hx hb dL_minutesAnew_8 rfl ?_
    refine fx_last (k := 10) (j := 0) (n := 1) hx hb hK hI oW_s (i := 0) (by unfold vp_in; decide) oW_u dL_minutesAnew_9 (fun H locs hI => ?_)
    refine lv_goto (tgt := 17) hx hb dL_minutesAnew_10 (by decide) ?_
    refine lv_iconst (v := 0) hx hb dL_minutesAnew_17 (by decide) ?_
    exact rx_i hx hb hr hlocks hI hA hQ (Or.inl ⟨_, _, hp2, rfl, rfl⟩) (Nat.le_of_ble_eq_true rfl) (Nat.le_of_ble_eq_true rfl) dL_minutesAnew_18
theorem kH_kilos : CkH "IcehighwayLaw" 186 yL_kilos cL_kilos 5 (some .int) [(0, 10, 13, 27), (0, 10, 17, 13)] 4 := ⟨q735, q733, q734, q0, by decide +kernel⟩
theorem kLX_91 : CkV "IcehighwayLaw" 91 yX3_kilos cX3_kilos 3 (some .int) 2 := ⟨q739, q736, q737, q738, q1, by decide +kernel⟩
set_option maxHeartbeats 4000000 in
theorem tE_kilos {Z : XZ} {S : XS} {ug : Int32} {uk : Int32} {E : String} (h : (X_kilos Z S ug uk).1 = some E) : E = EIOB ∨ E = EIAE := by
  unfold X_kilos at h
  try dsimp only at h
  (repeat' split at h) <;> first | exact absurd (show (none : Option String) = some E from h) (fun z => nomatch z) | exact Or.inl ((Option.some.inj h).symm) | exact Or.inr (((Option.some.inj h).symm)) | exact Or.inr ((tE_needRange (Z := Z) (S := S) h)) | exact Or.inl (tE_needGoods (Z := Z) (S := S) h) | exact Or.inl (tE_pieceNumbered (Z := Z) (S := S) h) | exact Or.inl (tE_vehicleNumbered (Z := Z) (S := S) h)
set_option maxHeartbeats 4000000 in
set_option maxRecDepth 100000 in
theorem cL_kilosw (G : GX) (hst : G.1.stackTraces = false) (Z : XZ) (S : XS) (b : Nat) (f : Nat → Int64) (ug : Int32) (uk : Int32) (hWZ : WZ Z) (hC : CW Z S) : FH G yL_kilos cL_kilos 5 (some .int) [(0, 10, 13, 27), (0, 10, 17, 13)] { frames := 8, cells := 2, slots := 12, locals := 126 } [.ref (Z.A 0 0), .int ug, .int uk, .ref b] (jn (xW G.2.2.2 G.2.1 Z S) (oW G.2.2.2 b f)) (poL G.2.2.2 (xW G.2.2.2 G.2.1 Z S) b f cvI (pvx (X_kilos Z S ug uk).1 (.int (X_kilos Z S ug uk).2) (xW G.2.2.2 G.2.1 Z S)) (px (X_kilos Z S ug uk).1 (xW G.2.2.2 G.2.1 Z S)) (cdL EIOB EIAE)) := by
  refine FH.go (lv := [(0, .ref (Z.A 0 0)), (1, .int ug), (2, .int uk), (3, .ref b)]) (by decide) (Nat.le_of_ble_eq_true rfl) rfl (fun p e s m args below meth c A H locs ls Q hx hb hr hts hown hml hlocks htab hK hE hI hA hl hQ => ?_)
  have hown : s.vm.findClass "IcehighwayLaw" = some m.cls := hown
  refine lv_aload_n hx hb dL_kilos_0 rfl (lv_at hl 3 rfl) ?_
  refine lv_iconst (v := 0) hx hb dL_kilos_1 (by decide) ?_
  refine lv_aload_n hx hb dL_kilos_2 rfl (lv_at hl 0 rfl) ?_
  refine lv_iload_n hx hb dL_kilos_3 rfl (lv_at hl 1 rfl) ?_
  refine lv_iload_n hx hb dL_kilos_4 rfl (lv_at hl 2 rfl) ?_
  refine jx_xcallV (rest := [.int 0, .ref b]) (as := [.int ug, .int uk]) hx hb hml hts hown hK hE Dj_oW hI (cX_kilos G hst Z S ug uk hWZ hC) kLX_91 ⟨(Nat.le_of_ble_eq_true rfl), (Nat.le_of_ble_eq_true rfl)⟩ (kk := 0) (ii := 0) (xW0 (by decide)) rfl rfl hl.1 (Nat.le_of_ble_eq_true rfl) dL_kilos_5 ⟨(Nat.le_of_ble_eq_true rfl), (Nat.le_of_ble_eq_true rfl)⟩ (fun E ce q9 w' H locs hp hI g1 g2 g3 => ?_) (fun v w' H locs hp hI => ?_)
  · obtain ⟨hpT, rfl⟩ := hp
    have hE9 := tE_kilos hpT
    rcases hE9 with rfl | rfl
    · refine jx_catch hts hown hE htab [] (0, 10, 13, 27) [(0, 10, 17, 13)] rfl (fun z hz => by cases hz) (by decide) (by decide) q378 q389 g1 g2 g3 ?_
      refine lv_astore (lv' := [(4, .ref q9), (0, .ref (Z.A 0 0)), (1, .int ug), (2, .int uk), (3, .ref b)]) hx hb dL_kilos_13 hl (by decide) rfl (fun ls hl => ?_)
      refine lv_iconst (v := 1) hx hb dL_kilos_15 (by decide) ?_
      exact rx_i hx hb hr hlocks hI hA hQ (Or.inr ⟨EIOB, ⟨hpT, rfl⟩, congrArg (fun z => some (Value.int z)) cdL_1.symm, rfl⟩) (Nat.le_of_ble_eq_true rfl) (Nat.le_of_ble_eq_true rfl) dL_kilos_16
    · refine jx_catch hts hown hE htab [(0, 10, 13, 27)] (0, 10, 17, 13) [] rfl (fun z hz => by
      simp only [List.mem_cons, List.not_mem_nil, or_false] at hz
      subst hz
      · exact ⟨by decide, _, q378, by decide⟩) (by decide) (by decide) q103 q114 g1 g2 g3 ?_
      refine lv_astore (lv' := [(4, .ref q9), (0, .ref (Z.A 0 0)), (1, .int ug), (2, .int uk), (3, .ref b)]) hx hb dL_kilos_17 hl (by decide) rfl (fun ls hl => ?_)
      refine lv_iconst (v := 2) hx hb dL_kilos_19 (by decide) ?_
      exact rx_i hx hb hr hlocks hI hA hQ (Or.inr ⟨EIAE, ⟨hpT, rfl⟩, congrArg (fun z => some (Value.int z)) (cdL_2 (by decide)).symm, rfl⟩) (Nat.le_of_ble_eq_true rfl) (Nat.le_of_ble_eq_true rfl) dL_kilos_20
  · have hp2 := hp
    obtain ⟨hT, rfl, rfl⟩ := hp
    refine lv_i2l hx hb dL_kilos_8 rfl ?_
    refine fx_last (k := 10) (j := 0) (n := 1) hx hb hK hI oW_s (i := 0) (by unfold vp_in; decide) oW_u dL_kilos_9 (fun H locs hI => ?_)
    refine lv_goto (tgt := 21) hx hb dL_kilos_10 (by decide) ?_
    refine lv_iconst (v := 0) hx hb dL_kilos_21 (by decide) ?_
    exact rx_i hx hb hr hlocks hI hA hQ (Or.inl ⟨_, _, hp2, rfl, rfl⟩) (Nat.le_of_ble_eq_true rfl) (Nat.le_of_ble_eq_true rfl) dL_kilos_22
theorem kH_kilosAnew : CkH "IcehighwayLaw" 189 yL_kilosAnew cL_kilosAnew 4 (some .int) [(0, 9, 12, 27)] 3 := ⟨q746, q744, q745, q0, by decide +kernel⟩
theorem kLX_94 : CkV "IcehighwayLaw" 94 yX3_kilosAnew cX3_kilosAnew 5 (some .int) 1 := ⟨q750, q747, q748, q749, q1, by decide +kernel⟩
set_option maxHeartbeats 4000000 in
theorem tE_kilosAnew {Z : XZ} {S : XS} {ug : Int32} {E : String} (h : (X_kilosAnew Z S ug).1 = some E) : E = EIOB := by
  unfold X_kilosAnew at h
  try dsimp only at h
  (repeat' split at h) <;> first | exact absurd (show (none : Option String) = some E from h) (fun z => nomatch z) | exact (Option.some.inj h).symm | exact tE_needGoods (Z := Z) (S := S) h | exact tE_pieceNumbered (Z := Z) (S := S) h | exact tE_vehicleNumbered (Z := Z) (S := S) h
set_option maxHeartbeats 4000000 in
set_option maxRecDepth 100000 in
theorem cL_kilosAneww (G : GX) (hst : G.1.stackTraces = false) (Z : XZ) (S : XS) (b : Nat) (f : Nat → Int64) (ug : Int32) (hWZ : WZ Z) : FH G yL_kilosAnew cL_kilosAnew 4 (some .int) [(0, 9, 12, 27)] { frames := 8, cells := 1, slots := 6, locals := 126 } [.ref (Z.A 0 0), .int ug, .ref b] (jn (xW G.2.2.2 G.2.1 Z S) (oW G.2.2.2 b f)) (poL G.2.2.2 (xW G.2.2.2 G.2.1 Z S) b f cvI (pvx (X_kilosAnew Z S ug).1 (.int (X_kilosAnew Z S ug).2) (xW G.2.2.2 G.2.1 Z S)) (px (X_kilosAnew Z S ug).1 (xW G.2.2.2 G.2.1 Z S)) (cdL EIOB "")) := by
  refine FH.go (lv := [(0, .ref (Z.A 0 0)), (1, .int ug), (2, .ref b)]) (by decide) (Nat.le_of_ble_eq_true rfl) rfl (fun p e s m args below meth c A H locs ls Q hx hb hr hts hown hml hlocks htab hK hE hI hA hl hQ => ?_)
  have hown : s.vm.findClass "IcehighwayLaw" = some m.cls := hown
  refine lv_aload_n hx hb dL_kilosAnew_0 rfl (lv_at hl 2 rfl) ?_
  refine lv_iconst (v := 0) hx hb dL_kilosAnew_1 (by decide) ?_
  refine lv_aload_n hx hb dL_kilosAnew_2 rfl (lv_at hl 0 rfl) ?_
  refine lv_iload_n hx hb dL_kilosAnew_3 rfl (lv_at hl 1 rfl) ?_
  refine jx_xcallV (rest := [.int 0, .ref b]) (as := [.int ug]) hx hb hml hts hown hK hE Dj_oW hI (cX_kilosAnew G hst Z S ug hWZ) kLX_94 ⟨(Nat.le_of_ble_eq_true rfl), (Nat.le_of_ble_eq_true rfl)⟩ (kk := 0) (ii := 0) (xW0 (by decide)) rfl rfl hl.1 (Nat.le_of_ble_eq_true rfl) dL_kilosAnew_4 ⟨(Nat.le_of_ble_eq_true rfl), (Nat.le_of_ble_eq_true rfl)⟩ (fun E ce q9 w' H locs hp hI g1 g2 g3 => ?_) (fun v w' H locs hp hI => ?_)
  · obtain ⟨hpT, rfl⟩ := hp
    have hE9 := tE_kilosAnew hpT
    subst hE9
    refine jx_catch hts hown hE htab [] (0, 9, 12, 27) [] rfl (fun z hz => by cases hz) (by decide) (by decide) q378 q389 g1 g2 g3 ?_
    refine lv_astore_n (lv' := [(3, .ref q9), (0, .ref (Z.A 0 0)), (1, .int ug), (2, .ref b)]) hx hb dL_kilosAnew_12 rfl hl (by decide) rfl (fun ls hl => ?_)
    refine lv_iconst (v := 1) hx hb dL_kilosAnew_13 (by decide) ?_
    exact rx_i hx hb hr hlocks hI hA hQ (Or.inr ⟨EIOB, ⟨hpT, rfl⟩, congrArg (fun z => some (Value.int z)) cdL_1.symm, rfl⟩) (Nat.le_of_ble_eq_true rfl) (Nat.le_of_ble_eq_true rfl) dL_kilosAnew_14
  · have hp2 := hp
    obtain ⟨hT, rfl, rfl⟩ := hp
    refine lv_i2l hx hb dL_kilosAnew_7 rfl ?_
    refine fx_last (k := 10) (j := 0) (n := 1) hx hb hK hI oW_s (i := 0) (by unfold vp_in; decide) oW_u dL_kilosAnew_8 (fun H locs hI => ?_)
    refine lv_goto (tgt := 15) hx hb dL_kilosAnew_9 (by decide) ?_
    refine lv_iconst (v := 0) hx hb dL_kilosAnew_15 (by decide) ?_
    exact rx_i hx hb hr hlocks hI hA hQ (Or.inl ⟨_, _, hp2, rfl, rfl⟩) (Nat.le_of_ble_eq_true rfl) (Nat.le_of_ble_eq_true rfl) dL_kilosAnew_16
theorem kH_piece : CkH "IcehighwayLaw" 101 yL_piece cL_piece 6 (some .int) [(0, 12, 15, 13), (0, 12, 19, 15)] 5 := ⟨q102, q100, q101, q0, by decide +kernel⟩
theorem kLX_7 : CkV "IcehighwayLaw" 7 yX3_piece cX3_piece 4 (some .int) 3 := ⟨q108, q105, q106, q107, q1, by decide +kernel⟩
set_option maxHeartbeats 4000000 in
theorem tE_piece {Z : XZ} {S : XS} {ui : Int32} {uf : Int32} {ud : Int32} {E : String} (h : (X_piece Z S ui uf ud) = some E) : E = EIAE ∨ E = EISE := by
  unfold X_piece at h
  try dsimp only at h
  (repeat' split at h) <;> first | exact absurd (show (none : Option String) = some E from h) (fun z => nomatch z) | exact Or.inl ((Option.some.inj h).symm) | exact Or.inr (((Option.some.inj h).symm)) | exact Or.inl (tE_needRange (Z := Z) (S := S) h)
set_option maxHeartbeats 4000000 in
set_option maxRecDepth 100000 in
theorem cL_piecew (G : GX) (hst : G.1.stackTraces = false) (Z : XZ) (S : XS) (b : Nat) (f : Nat → Int64) (ui : Int32) (uf : Int32) (ud : Int32) (hWZ : WZ Z) (hC : CW Z S) : FH G yL_piece cL_piece 6 (some .int) [(0, 12, 15, 13), (0, 12, 19, 15)] { frames := 8, cells := 5, slots := 802, locals := 236 } [.ref (Z.A 0 0), .int ui, .int uf, .int ud, .ref b] (jn (xW G.2.2.2 G.2.1 Z S) (oW G.2.2.2 b f)) (poL G.2.2.2 (xW G.2.2.2 G.2.1 Z S) b f cvI (fun v w' => (X_piece Z S ui uf ud) = none ∧ v = some (.int (nI (Z.N 0))) ∧ ∃ h1 h2 : Nat, w' = xW G.2.2.2 G.2.1 (zA Z 0 h1 h2) (xset (X_iPiece (zO Z 1 h1) (xz S 1 (Z.O 1)) (Z.O 1) ui uf ud) 6 0 0 ((X_iPiece (zO Z 1 h1) (xz S 1 (Z.O 1)) (Z.O 1) ui uf ud).1 6 0 0 + 1))) (px (X_piece Z S ui uf ud) (xW G.2.2.2 G.2.1 Z S)) (cdL EIAE EISE)) := by
  refine FH.go (lv := [(0, .ref (Z.A 0 0)), (1, .int ui), (2, .int uf), (3, .int ud), (4, .ref b)]) (by decide) (Nat.le_of_ble_eq_true rfl) rfl (fun p e s m args below meth c A H locs ls Q hx hb hr hts hown hml hlocks htab hK hE hI hA hl hQ => ?_)
  have hown : s.vm.findClass "IcehighwayLaw" = some m.cls := hown
  refine lv_aload hx hb dL_piece_0 (lv_at hl 4 rfl) ?_
  refine lv_iconst (v := 0) hx hb dL_piece_2 (by decide) ?_
  refine lv_aload_n hx hb dL_piece_3 rfl (lv_at hl 0 rfl) ?_
  refine lv_iload_n hx hb dL_piece_4 rfl (lv_at hl 1 rfl) ?_
  refine lv_iload_n hx hb dL_piece_5 rfl (lv_at hl 2 rfl) ?_
  refine lv_iload_n hx hb dL_piece_6 rfl (lv_at hl 3 rfl) ?_
  refine jx_xcallV (rest := [.int 0, .ref b]) (as := [.int ui, .int uf, .int ud]) hx hb hml hts hown hK hE Dj_oW hI (cX_piece G hst Z S ui uf ud hWZ hC) kLX_7 ⟨(Nat.le_of_ble_eq_true rfl), (Nat.le_of_ble_eq_true rfl)⟩ (kk := 0) (ii := 0) (xW0 (by decide)) rfl rfl hl.1 (Nat.le_of_ble_eq_true rfl) dL_piece_7 ⟨(Nat.le_of_ble_eq_true rfl), (Nat.le_of_ble_eq_true rfl)⟩ (fun E ce q9 w' H locs hp hI g1 g2 g3 => ?_) (fun v w' H locs hp hI => ?_)
  · obtain ⟨hpT, rfl⟩ := hp
    have hE9 := tE_piece hpT
    rcases hE9 with rfl | rfl
    · refine jx_catch hts hown hE htab [] (0, 12, 15, 13) [(0, 12, 19, 15)] rfl (fun z hz => by cases hz) (by decide) (by decide) q103 q114 g1 g2 g3 ?_
      refine lv_astore (lv' := [(5, .ref q9), (0, .ref (Z.A 0 0)), (1, .int ui), (2, .int uf), (3, .int ud), (4, .ref b)]) hx hb dL_piece_15 hl (by decide) rfl (fun ls hl => ?_)
      refine lv_iconst (v := 1) hx hb dL_piece_17 (by decide) ?_
      exact rx_i hx hb hr hlocks hI hA hQ (Or.inr ⟨EIAE, ⟨hpT, rfl⟩, congrArg (fun z => some (Value.int z)) cdL_1.symm, rfl⟩) (Nat.le_of_ble_eq_true rfl) (Nat.le_of_ble_eq_true rfl) dL_piece_18
    · refine jx_catch hts hown hE htab [(0, 12, 15, 13)] (0, 12, 19, 15) [] rfl (fun z hz => by
      simp only [List.mem_cons, List.not_mem_nil, or_false] at hz
      subst hz
      · exact ⟨by decide, _, q103, by decide⟩) (by decide) (by decide) q104 q201 g1 g2 g3 ?_
      refine lv_astore (lv' := [(5, .ref q9), (0, .ref (Z.A 0 0)), (1, .int ui), (2, .int uf), (3, .int ud), (4, .ref b)]) hx hb dL_piece_19 hl (by decide) rfl (fun ls hl => ?_)
      refine lv_iconst (v := 2) hx hb dL_piece_21 (by decide) ?_
      exact rx_i hx hb hr hlocks hI hA hQ (Or.inr ⟨EISE, ⟨hpT, rfl⟩, congrArg (fun z => some (Value.int z)) (cdL_2 (by decide)).symm, rfl⟩) (Nat.le_of_ble_eq_true rfl) (Nat.le_of_ble_eq_true rfl) dL_piece_22
  · have hp2 := hp
    obtain ⟨hT, rfl, h1, h2, rfl⟩ := hp
    refine lv_i2l hx hb dL_piece_10 rfl ?_
    refine fx_last (k := 10) (j := 0) (n := 1) hx hb hK hI oW_s (i := 0) (by unfold vp_in; decide) oW_u dL_piece_11 (fun H locs hI => ?_)
    refine lv_goto (tgt := 23) hx hb dL_piece_12 (by decide) ?_
    refine lv_iconst (v := 0) hx hb dL_piece_23 (by decide) ?_
    exact rx_i hx hb hr hlocks hI hA hQ (Or.inl ⟨_, _, hp2, rfl, rfl⟩) (Nat.le_of_ble_eq_true rfl) (Nat.le_of_ble_eq_true rfl) dL_piece_24
theorem kH_vehicle : CkH "IcehighwayLaw" 138 yL_vehicle cL_vehicle 6 (some .int) [(0, 12, 15, 13), (0, 12, 19, 15)] 5 := ⟨q454, q452, q453, q0, by decide +kernel⟩
theorem kLX_46 : CkV "IcehighwayLaw" 46 yX3_vehicle cX3_vehicle 4 (some .int) 3 := ⟨q458, q455, q456, q457, q1, by decide +kernel⟩
set_option maxHeartbeats 4000000 in
theorem tE_vehicle {Z : XZ} {S : XS} {ui : Int32} {uf : Int32} {ud : Int32} {E : String} (h : (X_vehicle Z S ui uf ud) = some E) : E = EIAE ∨ E = EISE := by
  unfold X_vehicle at h
  try dsimp only at h
  (repeat' split at h) <;> first | exact absurd (show (none : Option String) = some E from h) (fun z => nomatch z) | exact Or.inl ((Option.some.inj h).symm) | exact Or.inr (((Option.some.inj h).symm)) | exact Or.inl (tE_needRange (Z := Z) (S := S) h)
set_option maxHeartbeats 4000000 in
set_option maxRecDepth 100000 in
theorem cL_vehiclew (G : GX) (hst : G.1.stackTraces = false) (Z : XZ) (S : XS) (b : Nat) (f : Nat → Int64) (ui : Int32) (uf : Int32) (ud : Int32) (hWZ : WZ Z) (hC : CW Z S) : FH G yL_vehicle cL_vehicle 6 (some .int) [(0, 12, 15, 13), (0, 12, 19, 15)] { frames := 8, cells := 5, slots := 794, locals := 236 } [.ref (Z.A 0 0), .int ui, .int uf, .int ud, .ref b] (jn (xW G.2.2.2 G.2.1 Z S) (oW G.2.2.2 b f)) (poL G.2.2.2 (xW G.2.2.2 G.2.1 Z S) b f cvI (fun v w' => (X_vehicle Z S ui uf ud) = none ∧ v = some (.int (nI (Z.N 1))) ∧ ∃ h1 h2 : Nat, w' = xW G.2.2.2 G.2.1 (zA Z 1 h1 h2) (xset (X_iVehicle (zO Z 2 h1) (xz S 2 (Z.O 2)) (Z.O 2) ui uf ud) 6 1 0 ((X_iVehicle (zO Z 2 h1) (xz S 2 (Z.O 2)) (Z.O 2) ui uf ud).1 6 1 0 + 1))) (px (X_vehicle Z S ui uf ud) (xW G.2.2.2 G.2.1 Z S)) (cdL EIAE EISE)) := by
  refine FH.go (lv := [(0, .ref (Z.A 0 0)), (1, .int ui), (2, .int uf), (3, .int ud), (4, .ref b)]) (by decide) (Nat.le_of_ble_eq_true rfl) rfl (fun p e s m args below meth c A H locs ls Q hx hb hr hts hown hml hlocks htab hK hE hI hA hl hQ => ?_)
  have hown : s.vm.findClass "IcehighwayLaw" = some m.cls := hown
  refine lv_aload hx hb dL_vehicle_0 (lv_at hl 4 rfl) ?_
  refine lv_iconst (v := 0) hx hb dL_vehicle_2 (by decide) ?_
  refine lv_aload_n hx hb dL_vehicle_3 rfl (lv_at hl 0 rfl) ?_
  refine lv_iload_n hx hb dL_vehicle_4 rfl (lv_at hl 1 rfl) ?_
  refine lv_iload_n hx hb dL_vehicle_5 rfl (lv_at hl 2 rfl) ?_
  refine lv_iload_n hx hb dL_vehicle_6 rfl (lv_at hl 3 rfl) ?_
  refine jx_xcallV (rest := [.int 0, .ref b]) (as := [.int ui, .int uf, .int ud]) hx hb hml hts hown hK hE Dj_oW hI (cX_vehicle G hst Z S ui uf ud hWZ hC) kLX_46 ⟨(Nat.le_of_ble_eq_true rfl), (Nat.le_of_ble_eq_true rfl)⟩ (kk := 0) (ii := 0) (xW0 (by decide)) rfl rfl hl.1 (Nat.le_of_ble_eq_true rfl) dL_vehicle_7 ⟨(Nat.le_of_ble_eq_true rfl), (Nat.le_of_ble_eq_true rfl)⟩ (fun E ce q9 w' H locs hp hI g1 g2 g3 => ?_) (fun v w' H locs hp hI => ?_)
  · obtain ⟨hpT, rfl⟩ := hp
    have hE9 := tE_vehicle hpT
    rcases hE9 with rfl | rfl
    · refine jx_catch hts hown hE htab [] (0, 12, 15, 13) [(0, 12, 19, 15)] rfl (fun z hz => by cases hz) (by decide) (by decide) q103 q114 g1 g2 g3 ?_
      refine lv_astore (lv' := [(5, .ref q9), (0, .ref (Z.A 0 0)), (1, .int ui), (2, .int uf), (3, .int ud), (4, .ref b)]) hx hb dL_vehicle_15 hl (by decide) rfl (fun ls hl => ?_)
      refine lv_iconst (v := 1) hx hb dL_vehicle_17 (by decide) ?_
      exact rx_i hx hb hr hlocks hI hA hQ (Or.inr ⟨EIAE, ⟨hpT, rfl⟩, congrArg (fun z => some (Value.int z)) cdL_1.symm, rfl⟩) (Nat.le_of_ble_eq_true rfl) (Nat.le_of_ble_eq_true rfl) dL_vehicle_18
    · refine jx_catch hts hown hE htab [(0, 12, 15, 13)] (0, 12, 19, 15) [] rfl (fun z hz => by
      simp only [List.mem_cons, List.not_mem_nil, or_false] at hz
      subst hz
      · exact ⟨by decide, _, q103, by decide⟩) (by decide) (by decide) q104 q201 g1 g2 g3 ?_
      refine lv_astore (lv' := [(5, .ref q9), (0, .ref (Z.A 0 0)), (1, .int ui), (2, .int uf), (3, .int ud), (4, .ref b)]) hx hb dL_vehicle_19 hl (by decide) rfl (fun ls hl => ?_)
      refine lv_iconst (v := 2) hx hb dL_vehicle_21 (by decide) ?_
      exact rx_i hx hb hr hlocks hI hA hQ (Or.inr ⟨EISE, ⟨hpT, rfl⟩, congrArg (fun z => some (Value.int z)) (cdL_2 (by decide)).symm, rfl⟩) (Nat.le_of_ble_eq_true rfl) (Nat.le_of_ble_eq_true rfl) dL_vehicle_22
  · have hp2 := hp
    obtain ⟨hT, rfl, h1, h2, rfl⟩ := hp
    refine lv_i2l hx hb dL_vehicle_10 rfl ?_
    refine fx_last (k := 10) (j := 0) (n := 1) hx hb hK hI oW_s (i := 0) (by unfold vp_in; decide) oW_u dL_vehicle_11 (fun H locs hI => ?_)
    refine lv_goto (tgt := 23) hx hb dL_vehicle_12 (by decide) ?_
    refine lv_iconst (v := 0) hx hb dL_vehicle_23 (by decide) ?_
    exact rx_i hx hb hr hlocks hI hA hQ (Or.inl ⟨_, _, hp2, rfl, rfl⟩) (Nat.le_of_ble_eq_true rfl) (Nat.le_of_ble_eq_true rfl) dL_vehicle_24
theorem kH_load : CkH "IcehighwayLaw" 141 yL_load cL_load 6 (some .int) [(0, 12, 15, 27), (0, 12, 19, 13), (0, 12, 23, 15)] 5 := ⟨q503, q501, q502, q0, by decide +kernel⟩
theorem kLX_49 : CkV "IcehighwayLaw" 49 yX3_load cX3_load 6 (some .int) 3 := ⟨q507, q504, q505, q506, q1, by decide +kernel⟩
set_option maxHeartbeats 4000000 in
theorem tE_load {Z : XZ} {S : XS} {uv : Int32} {ug : Int32} {uk : Int32} {E : String} (h : (X_load Z S uv ug uk) = some E) : E = EIOB ∨ E = EIAE ∨ E = EISE := by
  unfold X_load at h
  try dsimp only at h
  (repeat' split at h) <;> first | exact absurd (show (none : Option String) = some E from h) (fun z => nomatch z) | exact Or.inl ((Option.some.inj h).symm) | exact Or.inr (Or.inl ((Option.some.inj h).symm)) | exact Or.inr (Or.inr (((Option.some.inj h).symm))) | exact Or.inr (Or.inl (tE_needRange (Z := Z) (S := S) h)) | exact Or.inl (tE_needGoods (Z := Z) (S := S) h) | exact Or.inl (tE_pieceNumbered (Z := Z) (S := S) h) | exact Or.inl (tE_vehicleNumbered (Z := Z) (S := S) h)
set_option maxHeartbeats 4000000 in
set_option maxRecDepth 100000 in
theorem cL_loadw (G : GX) (hst : G.1.stackTraces = false) (Z : XZ) (S : XS) (b : Nat) (f : Nat → Int64) (uv : Int32) (ug : Int32) (uk : Int32) (hWZ : WZ Z) (hC : CW Z S) : FH G yL_load cL_load 6 (some .int) [(0, 12, 15, 27), (0, 12, 19, 13), (0, 12, 23, 15)] { frames := 8, cells := 5, slots := 789, locals := 238 } [.ref (Z.A 0 0), .int uv, .int ug, .int uk, .ref b] (jn (xW G.2.2.2 G.2.1 Z S) (oW G.2.2.2 b f)) (poL G.2.2.2 (xW G.2.2.2 G.2.1 Z S) b f cvI (fun v w' => (X_load Z S uv ug uk) = none ∧ ∃ h1 h2 : Nat, v = some (.int (X_weight (zA Z 2 h1 h2) (X_loadS Z S h1 uv.toNatClampNeg ug uk) uv.toNatClampNeg)) ∧ w' = xW G.2.2.2 G.2.1 (zA Z 2 h1 h2) (X_loadS Z S h1 uv.toNatClampNeg ug uk)) (px (X_load Z S uv ug uk) (xW G.2.2.2 G.2.1 Z S)) (cdL EIOB EIAE)) := by
  refine FH.go (lv := [(0, .ref (Z.A 0 0)), (1, .int uv), (2, .int ug), (3, .int uk), (4, .ref b)]) (by decide) (Nat.le_of_ble_eq_true rfl) rfl (fun p e s m args below meth c A H locs ls Q hx hb hr hts hown hml hlocks htab hK hE hI hA hl hQ => ?_)
  have hown : s.vm.findClass "IcehighwayLaw" = some m.cls := hown
  refine lv_aload hx hb dL_load_0 (lv_at hl 4 rfl) ?_
  refine lv_iconst (v := 0) hx hb dL_load_2 (by decide) ?_
  refine lv_aload_n hx hb dL_load_3 rfl (lv_at hl 0 rfl) ?_
  refine lv_iload_n hx hb dL_load_4 rfl (lv_at hl 1 rfl) ?_
  refine lv_iload_n hx hb dL_load_5 rfl (lv_at hl 2 rfl) ?_
  refine lv_iload_n hx hb dL_load_6 rfl (lv_at hl 3 rfl) ?_
  refine jx_xcallV (rest := [.int 0, .ref b]) (as := [.int uv, .int ug, .int uk]) hx hb hml hts hown hK hE Dj_oW hI (cX_load G hst Z S uv ug uk hWZ hC) kLX_49 ⟨(Nat.le_of_ble_eq_true rfl), (Nat.le_of_ble_eq_true rfl)⟩ (kk := 0) (ii := 0) (xW0 (by decide)) rfl rfl hl.1 (Nat.le_of_ble_eq_true rfl) dL_load_7 ⟨(Nat.le_of_ble_eq_true rfl), (Nat.le_of_ble_eq_true rfl)⟩ (fun E ce q9 w' H locs hp hI g1 g2 g3 => ?_) (fun v w' H locs hp hI => ?_)
  · obtain ⟨hpT, rfl⟩ := hp
    have hE9 := tE_load hpT
    rcases hE9 with rfl | rfl | rfl
    · refine jx_catch hts hown hE htab [] (0, 12, 15, 27) [(0, 12, 19, 13), (0, 12, 23, 15)] rfl (fun z hz => by cases hz) (by decide) (by decide) q378 q389 g1 g2 g3 ?_
      refine lv_astore (lv' := [(5, .ref q9), (0, .ref (Z.A 0 0)), (1, .int uv), (2, .int ug), (3, .int uk), (4, .ref b)]) hx hb dL_load_15 hl (by decide) rfl (fun ls hl => ?_)
      refine lv_iconst (v := 1) hx hb dL_load_17 (by decide) ?_
      exact rx_i hx hb hr hlocks hI hA hQ (Or.inr ⟨EIOB, ⟨hpT, rfl⟩, congrArg (fun z => some (Value.int z)) cdL_1.symm, rfl⟩) (Nat.le_of_ble_eq_true rfl) (Nat.le_of_ble_eq_true rfl) dL_load_18
    · refine jx_catch hts hown hE htab [(0, 12, 15, 27)] (0, 12, 19, 13) [(0, 12, 23, 15)] rfl (fun z hz => by
      simp only [List.mem_cons, List.not_mem_nil, or_false] at hz
      subst hz
      · exact ⟨by decide, _, q378, by decide⟩) (by decide) (by decide) q103 q114 g1 g2 g3 ?_
      refine lv_astore (lv' := [(5, .ref q9), (0, .ref (Z.A 0 0)), (1, .int uv), (2, .int ug), (3, .int uk), (4, .ref b)]) hx hb dL_load_19 hl (by decide) rfl (fun ls hl => ?_)
      refine lv_iconst (v := 2) hx hb dL_load_21 (by decide) ?_
      exact rx_i hx hb hr hlocks hI hA hQ (Or.inr ⟨EIAE, ⟨hpT, rfl⟩, congrArg (fun z => some (Value.int z)) (cdL_2 (by decide)).symm, rfl⟩) (Nat.le_of_ble_eq_true rfl) (Nat.le_of_ble_eq_true rfl) dL_load_22
    · refine jx_catch hts hown hE htab [(0, 12, 15, 27), (0, 12, 19, 13)] (0, 12, 23, 15) [] rfl (fun z hz => by
      simp only [List.mem_cons, List.not_mem_nil, or_false] at hz
      rcases hz with rfl | rfl
      · exact ⟨by decide, _, q378, by decide⟩
      · exact ⟨by decide, _, q103, by decide⟩) (by decide) (by decide) q104 q201 g1 g2 g3 ?_
      refine lv_astore (lv' := [(5, .ref q9), (0, .ref (Z.A 0 0)), (1, .int uv), (2, .int ug), (3, .int uk), (4, .ref b)]) hx hb dL_load_23 hl (by decide) rfl (fun ls hl => ?_)
      refine lv_iconst (v := 3) hx hb dL_load_25 (by decide) ?_
      exact rx_i hx hb hr hlocks hI hA hQ (Or.inr ⟨EISE, ⟨hpT, rfl⟩, congrArg (fun z => some (Value.int z)) (cdL_3 (by decide) (by decide)).symm, rfl⟩) (Nat.le_of_ble_eq_true rfl) (Nat.le_of_ble_eq_true rfl) dL_load_26
  · have hp2 := hp
    obtain ⟨hT, h1, h2, rfl, rfl⟩ := hp
    refine lv_i2l hx hb dL_load_10 rfl ?_
    refine fx_last (k := 10) (j := 0) (n := 1) hx hb hK hI oW_s (i := 0) (by unfold vp_in; decide) oW_u dL_load_11 (fun H locs hI => ?_)
    refine lv_goto (tgt := 27) hx hb dL_load_12 (by decide) ?_
    refine lv_iconst (v := 0) hx hb dL_load_27 (by decide) ?_
    exact rx_i hx hb hr hlocks hI hA hQ (Or.inl ⟨_, _, hp2, rfl, rfl⟩) (Nat.le_of_ble_eq_true rfl) (Nat.le_of_ble_eq_true rfl) dL_load_28
