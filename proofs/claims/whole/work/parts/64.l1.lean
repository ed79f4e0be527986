def cvI (v : Value) : Int64 := match v with
  | .int y => y.toInt64
  | _ => 0
def cvZ (v : Value) : Int64 := match v with
  | .int y => if y = 0 then 0 else 1
  | _ => 0
def cvD (v : Value) : UInt64 := match v with
  | .double y => y
  | _ => 0
def cdL (a b : String) (E : String) : Int32 := if E = a then 1 else if E = b then 2 else 3
theorem tE_needRange {Z : XZ} {S : XS} {x a b : Int32} {E : String} (h : X_needRange Z S x a b = some E) : E = EIAE := by
  unfold X_needRange at h
  (repeat' split at h) <;> first | (cases h; rfl) | cases h
theorem tE_needGoods {Z : XZ} {S : XS} {x : Int32} {E : String} (h : X_needGoods Z S x = some E) : E = EIOB := by
  unfold X_needGoods at h
  (repeat' split at h) <;> first | (cases h; rfl) | cases h
theorem tE_pieceNumbered {Z : XZ} {S : XS} {x : Int32} {E : String} (h : X_pieceNumbered Z S x = some E) : E = EIOB := by
  unfold X_pieceNumbered at h
  (repeat' split at h) <;> first | (cases h; rfl) | cases h
theorem tE_vehicleNumbered {Z : XZ} {S : XS} {x : Int32} {E : String} (h : X_vehicleNumbered Z S x = some E) : E = EIOB := by
  unfold X_vehicleNumbered at h
  (repeat' split at h) <;> first | (cases h; rfl) | cases h
theorem kH_weather : CkH "IcehighwayLaw" 111 yL_weather cL_weather 4 (some .int) [(0, 9, 12, 13)] 3 := ⟨q344, q342, q343, q0, by decide +kernel⟩
theorem kLX_17 : CkV "IcehighwayLaw" 17 yX3_weather cX3_weather 3 (some .int) 1 := ⟨q348, q345, q346, q347, q1, by decide +kernel⟩
set_option maxHeartbeats 4000000 in
theorem tE_weather {Z : XZ} {S : XS} {uk : Int32} {E : String} (h : (X_weather Z S uk).1 = some E) : E = EIAE := by
  unfold X_weather at h
  dsimp only at h
  (repeat' split at h) <;> first | exact absurd (show (none : Option String) = some E from h) (fun z => nomatch z) | exact (Option.some.inj h).symm | exact tE_needRange h
set_option maxHeartbeats 4000000 in
set_option maxRecDepth 100000 in
theorem cL_weatherw (G : GX) (hst : G.1.stackTraces = false) (Z : XZ) (S : XS) (b : Nat) (f : Nat → Int64) (uk : Int32) : FH G yL_weather cL_weather 4 (some .int) [(0, 9, 12, 13)] { frames := 8, cells := 1, slots := 6, locals := 126 } [.ref (Z.A 0 0), .int uk, .ref b] (jn (xW G.2.2.2 G.2.1 Z S) (oW G.2.2.2 b f)) (poL G.2.2.2 (xW G.2.2.2 G.2.1 Z S) b f cvI (pvx (X_weather Z S uk).1 (.int (X_weather Z S uk).2.1) (xW G.2.2.2 G.2.1 Z (X_weather Z S uk).2.2)) (px (X_weather Z S uk).1 (xW G.2.2.2 G.2.1 Z S)) (cdL EIAE "")) := by
  refine FH.go (lv := [(0, .ref (Z.A 0 0)), (1, .int uk), (2, .ref b)]) (by decide) (Nat.le_of_ble_eq_true rfl) rfl (fun p e s m args below meth c A H locs ls Q hx hb hr hts hown hml hlocks htab hK hE hI hA hl hQ => ?_)
  have hown : s.vm.findClass "IcehighwayLaw" = some m.cls := hown
  refine lv_aload_n hx hb dL_weather_0 rfl (lv_at hl 2 rfl) ?_
  refine lv_iconst (v := 0) hx hb dL_weather_1 (by decide) ?_
  refine lv_aload_n hx hb dL_weather_2 rfl (lv_at hl 0 rfl) ?_
  refine lv_iload_n hx hb dL_weather_3 rfl (lv_at hl 1 rfl) ?_
  refine jx_xcallV (rest := [.int 0, .ref b]) (as := [.int uk]) hx hb hml hts hown hK hE Dj_oW hI (cX_weather G hst Z S uk) kLX_17 ⟨(Nat.le_of_ble_eq_true rfl), (Nat.le_of_ble_eq_true rfl)⟩ (kk := 0) (ii := 0) (xW0 (by decide)) rfl rfl hl.1 (Nat.le_of_ble_eq_true rfl) dL_weather_4 ⟨(Nat.le_of_ble_eq_true rfl), (Nat.le_of_ble_eq_true rfl)⟩ (fun E ce q9 w' H locs hp hI g1 g2 g3 => ?_) (fun v w' H locs hp hI => ?_)
  · have hE9 := tE_weather hp.1
    subst hE9
    refine jx_catch hts hown hE htab [] (0, 9, 12, 13) [] rfl (fun z hz => by cases hz) (by decide) (by decide) q103 q114 g1 g2 g3 ?_
    refine lv_astore_n (lv' := [(3, .ref q9), (0, .ref (Z.A 0 0)), (1, .int uk), (2, .ref b)]) hx hb dL_weather_12 rfl hl (by decide) rfl (fun ls hl => ?_)
    refine lv_iconst (v := 1) hx hb dL_weather_13 (by decide) ?_
    exact rx_i hx hb hr hlocks hI hA hQ (Or.inr ⟨_, hp, by decide, by rw [hp.2]⟩) (Nat.le_of_ble_eq_true rfl) (Nat.le_of_ble_eq_true rfl) dL_weather_14
  · have hp2 := hp
    obtain ⟨hT, rfl, rfl⟩ := hp
    refine lv_i2l hx hb dL_weather_7 rfl ?_
    refine fx_last (k := 10) (j := 0) (n := 1) hx hb hK hI oW_s (i := 0) (by unfold vp_in; decide) oW_u dL_weather_8 (fun H locs hI => ?_)
    refine lv_goto (tgt := 15) hx hb dL_weather_9 (by decide) ?_
    refine lv_iconst (v := 0) hx hb dL_weather_15 (by decide) ?_
    exact rx_i hx hb hr hlocks hI hA hQ (Or.inl ⟨_, _, hp2, rfl, rfl⟩) (Nat.le_of_ble_eq_true rfl) (Nat.le_of_ble_eq_true rfl) dL_weather_16
theorem kH_flood : CkH "IcehighwayLaw" 121 yL_flood cL_flood 5 (some .int) [(0, 10, 13, 27), (0, 10, 17, 13), (0, 10, 21, 15)] 4 := ⟨q405, q403, q404, q0, by decide +kernel⟩
theorem kLX_29 : CkV "IcehighwayLaw" 29 yX3_flood cX3_flood 4 (some .int) 2 := ⟨q409, q406, q407, q408, q1, by decide +kernel⟩
set_option maxHeartbeats 4000000 in
theorem tE_flood {Z : XZ} {S : XS} {up : Int32} {uk : Int32} {E : String} (h : (X_flood Z S up uk).1 = some E) : E = EIOB ∨ E = EIAE ∨ E = EISE := by
  unfold X_flood at h
  dsimp only at h
  (repeat' split at h) <;> first | exact absurd (show (none : Option String) = some E from h) (fun z => nomatch z) | exact Or.inl ((Option.some.inj h).symm) | exact Or.inr (Or.inl ((Option.some.inj h).symm)) | exact Or.inr (Or.inr (((Option.some.inj h).symm))) | exact Or.inr (Or.inl (tE_needRange h)) | exact Or.inl (tE_needGoods h) | exact Or.inl (tE_pieceNumbered h) | exact Or.inl (tE_vehicleNumbered h)
set_option maxHeartbeats 4000000 in
set_option maxRecDepth 100000 in
theorem cL_floodw (G : GX) (hst : G.1.stackTraces = false) (Z : XZ) (S : XS) (b : Nat) (f : Nat → Int64) (up : Int32) (uk : Int32) (hWZ : WZ Z) : FH G yL_flood cL_flood 5 (some .int) [(0, 10, 13, 27), (0, 10, 17, 13), (0, 10, 21, 15)] { frames := 8, cells := 3, slots := 18, locals := 127 } [.ref (Z.A 0 0), .int up, .int uk, .ref b] (jn (xW G.2.2.2 G.2.1 Z S) (oW G.2.2.2 b f)) (poL G.2.2.2 (xW G.2.2.2 G.2.1 Z S) b f cvI (pvx (X_flood Z S up uk).1 (.int (X_flood Z S up uk).2.1) (xW G.2.2.2 G.2.1 Z (X_flood Z S up uk).2.2)) (px (X_flood Z S up uk).1 (xW G.2.2.2 G.2.1 Z S)) (cdL EIOB EIAE)) := by
  refine FH.go (lv := [(0, .ref (Z.A 0 0)), (1, .int up), (2, .int uk), (3, .ref b)]) (by decide) (Nat.le_of_ble_eq_true rfl) rfl (fun p e s m args below meth c A H locs ls Q hx hb hr hts hown hml hlocks htab hK hE hI hA hl hQ => ?_)
  have hown : s.vm.findClass "IcehighwayLaw" = some m.cls := hown
  refine lv_aload_n hx hb dL_flood_0 rfl (lv_at hl 3 rfl) ?_
  refine lv_iconst (v := 0) hx hb dL_flood_1 (by decide) ?_
  refine lv_aload_n hx hb dL_flood_2 rfl (lv_at hl 0 rfl) ?_
  refine lv_iload_n hx hb dL_flood_3 rfl (lv_at hl 1 rfl) ?_
  refine lv_iload_n hx hb dL_flood_4 rfl (lv_at hl 2 rfl) ?_
  refine jx_xcallV (rest := [.int 0, .ref b]) (as := [.int up, .int uk]) hx hb hml hts hown hK hE Dj_oW hI (cX_flood G hst Z S up uk hWZ) kLX_29 ⟨(Nat.le_of_ble_eq_true rfl), (Nat.le_of_ble_eq_true rfl)⟩ (kk := 0) (ii := 0) (xW0 (by decide)) rfl rfl hl.1 (Nat.le_of_ble_eq_true rfl) dL_flood_5 ⟨(Nat.le_of_ble_eq_true rfl), (Nat.le_of_ble_eq_true rfl)⟩ (fun E ce q9 w' H locs hp hI g1 g2 g3 => ?_) (fun v w' H locs hp hI => ?_)
  · have hE9 := tE_flood hp.1
    rcases hE9 with rfl | rfl | rfl
    · refine jx_catch hts hown hE htab [] (0, 10, 13, 27) [(0, 10, 17, 13), (0, 10, 21, 15)] rfl (fun z hz => by cases hz) (by decide) (by decide) q378 q389 g1 g2 g3 ?_
      refine lv_astore (lv' := [(4, .ref q9), (0, .ref (Z.A 0 0)), (1, .int up), (2, .int uk), (3, .ref b)]) hx hb dL_flood_13 hl (by decide) rfl (fun ls hl => ?_)
      refine lv_iconst (v := 1) hx hb dL_flood_15 (by decide) ?_
      exact rx_i hx hb hr hlocks hI hA hQ (Or.inr ⟨_, hp, by decide, by rw [hp.2]⟩) (Nat.le_of_ble_eq_true rfl) (Nat.le_of_ble_eq_true rfl) dL_flood_16
    · refine jx_catch hts hown hE htab [(0, 10, 13, 27)] (0, 10, 17, 13) [(0, 10, 21, 15)] rfl (fun z hz => by
      simp only [List.mem_cons, List.not_mem_nil, or_false] at hz
      subst hz
      · exact ⟨by decide, _, q378, by decide⟩) (by decide) (by decide) q103 q114 g1 g2 g3 ?_
      refine lv_astore (lv' := [(4, .ref q9), (0, .ref (Z.A 0 0)), (1, .int up), (2, .int uk), (3, .ref b)]) hx hb dL_flood_17 hl (by decide) rfl (fun ls hl => ?_)
      refine lv_iconst (v := 2) hx hb dL_flood_19 (by decide) ?_
      exact rx_i hx hb hr hlocks hI hA hQ (Or.inr ⟨_, hp, by decide, by rw [hp.2]⟩) (Nat.le_of_ble_eq_true rfl) (Nat.le_of_ble_eq_true rfl) dL_flood_20
    · refine jx_catch hts hown hE htab [(0, 10, 13, 27), (0, 10, 17, 13)] (0, 10, 21, 15) [] rfl (fun z hz => by
      simp only [List.mem_cons, List.not_mem_nil, or_false] at hz
      rcases hz with rfl | rfl
      · exact ⟨by decide, _, q378, by decide⟩
      · exact ⟨by decide, _, q103, by decide⟩) (by decide) (by decide) q104 q201 g1 g2 g3 ?_
      refine lv_astore (lv' := [(4, .ref q9), (0, .ref (Z.A 0 0)), (1, .int up), (2, .int uk), (3, .ref b)]) hx hb dL_flood_21 hl (by decide) rfl (fun ls hl => ?_)
      refine lv_iconst (v := 3) hx hb dL_flood_23 (by decide) ?_
      exact rx_i hx hb hr hlocks hI hA hQ (Or.inr ⟨_, hp, by decide, by rw [hp.2]⟩) (Nat.le_of_ble_eq_true rfl) (Nat.le_of_ble_eq_true rfl) dL_flood_24
  · have hp2 := hp
    obtain ⟨hT, rfl, rfl⟩ := hp
    refine lv_i2l hx hb dL_flood_8 rfl ?_
    refine fx_last (k := 10) (j := 0) (n := 1) hx hb hK hI oW_s (i := 0) (by unfold vp_in; decide) oW_u dL_flood_9 (fun H locs hI => ?_)
    refine lv_goto (tgt := 25) hx hb dL_flood_10 (by decide) ?_
    refine lv_iconst (v := 0) hx hb dL_flood_25 (by decide) ?_
    exact rx_i hx hb hr hlocks hI hA hQ (Or.inl ⟨_, _, hp2, rfl, rfl⟩) (Nat.le_of_ble_eq_true rfl) (Nat.le_of_ble_eq_true rfl) dL_flood_26
theorem kH_go : CkH "IcehighwayLaw" 144 yL_go cL_go 4 (some .int) [(0, 16, 19, 27), (0, 16, 22, 15)] 3 := ⟨q544, q542, q543, q0, by decide +kernel⟩
theorem kLX_52 : CkV "IcehighwayLaw" 52 yX3_go cX3_go 3 (some .boolean) 1 := ⟨q548, q545, q546, q547, q1, by decide +kernel⟩
set_option maxHeartbeats 4000000 in
theorem tE_go {Z : XZ} {S : XS} {uv : Int32} {E : String} (h : (X_go Z S uv).1 = some E) : E = EIOB ∨ E = EISE := by
  unfold X_go at h
  dsimp only at h
  (repeat' split at h) <;> first | exact absurd (show (none : Option String) = some E from h) (fun z => nomatch z) | exact Or.inl ((Option.some.inj h).symm) | exact Or.inr (((Option.some.inj h).symm)) | exact Or.inl (tE_needGoods h) | exact Or.inl (tE_pieceNumbered h) | exact Or.inl (tE_vehicleNumbered h)
set_option maxHeartbeats 4000000 in
set_option maxRecDepth 100000 in
theorem cL_gow (G : GX) (hst : G.1.stackTraces = false) (Z : XZ) (S : XS) (b : Nat) (f : Nat → Int64) (uv : Int32) (hWZ : WZ Z) : FH G yL_go cL_go 4 (some .int) [(0, 16, 19, 27), (0, 16, 22, 15)] { frames := 8, cells := 2, slots := 12, locals := 125 } [.ref (Z.A 0 0), .int uv, .ref b] (jn (xW G.2.2.2 G.2.1 Z S) (oW G.2.2.2 b f)) (poL G.2.2.2 (xW G.2.2.2 G.2.1 Z S) b f cvZ (pvx (X_go Z S uv).1 (.int (X_go Z S uv).2.1) (xW G.2.2.2 G.2.1 Z (X_go Z S uv).2.2)) (px (X_go Z S uv).1 (xW G.2.2.2 G.2.1 Z S)) (cdL EIOB EISE)) := by
  refine FH.go (lv := [(0, .ref (Z.A 0 0)), (1, .int uv), (2, .ref b)]) (by decide) (Nat.le_of_ble_eq_true rfl) rfl (fun p e s m args below meth c A H locs ls Q hx hb hr hts hown hml hlocks htab hK hE hI hA hl hQ => ?_)
  have hown : s.vm.findClass "IcehighwayLaw" = some m.cls := hown
  refine lv_aload_n hx hb dL_go_0 rfl (lv_at hl 2 rfl) ?_
  refine lv_iconst (v := 0) hx hb dL_go_1 (by decide) ?_
  refine lv_aload_n hx hb dL_go_2 rfl (lv_at hl 0 rfl) ?_
  refine lv_iload_n hx hb dL_go_3 rfl (lv_at hl 1 rfl) ?_
  refine jx_xcallV (rest := [.int 0, .ref b]) (as := [.int uv]) hx hb hml hts hown hK hE Dj_oW hI (cX_go G hst Z S uv hWZ) kLX_52 ⟨(Nat.le_of_ble_eq_true rfl), (Nat.le_of_ble_eq_true rfl)⟩ (kk := 0) (ii := 0) (xW0 (by decide)) rfl rfl hl.1 (Nat.le_of_ble_eq_true rfl) dL_go_4 ⟨(Nat.le_of_ble_eq_true rfl), (Nat.le_of_ble_eq_true rfl)⟩ (fun E ce q9 w' H locs hp hI g1 g2 g3 => ?_) (fun v w' H locs hp hI => ?_)
  · have hE9 := tE_go hp.1
    rcases hE9 with rfl | rfl
    · refine jx_catch hts hown hE htab [] (0, 16, 19, 27) [(0, 16, 22, 15)] rfl (fun z hz => by cases hz) (by decide) (by decide) q378 q389 g1 g2 g3 ?_
      refine lv_astore_n (lv' := [(3, .ref q9), (0, .ref (Z.A 0 0)), (1, .int uv), (2, .ref b)]) hx hb dL_go_19 rfl hl (by decide) rfl (fun ls hl => ?_)
      refine lv_iconst (v := 1) hx hb dL_go_20 (by decide) ?_
      exact rx_i hx hb hr hlocks hI hA hQ (Or.inr ⟨_, hp, by decide, by rw [hp.2]⟩) (Nat.le_of_ble_eq_true rfl) (Nat.le_of_ble_eq_true rfl) dL_go_21
    · refine jx_catch hts hown hE htab [(0, 16, 19, 27)] (0, 16, 22, 15) [] rfl (fun z hz => by
      simp only [List.mem_cons, List.not_mem_nil, or_false] at hz
      subst hz
      · exact ⟨by decide, _, q378, by decide⟩) (by decide) (by decide) q104 q201 g1 g2 g3 ?_
      refine lv_astore_n (lv' := [(3, .ref q9), (0, .ref (Z.A 0 0)), (1, .int uv), (2, .ref b)]) hx hb dL_go_22 rfl hl (by decide) rfl (fun ls hl => ?_)
      refine lv_iconst (v := 2) hx hb dL_go_23 (by decide) ?_
      exact rx_i hx hb hr hlocks hI hA hQ (Or.inr ⟨_, hp, by decide, by rw [hp.2]⟩) (Nat.le_of_ble_eq_true rfl) (Nat.le_of_ble_eq_true rfl) dL_go_24
  · have hp2 := hp
    obtain ⟨hT, rfl, rfl⟩ := hp
    refine lv_if_eq (tgt := 14) hx hb dL_go_7 (by decide) (fun hz => ?_) (fun hz => ?_)
    · refine lv_lconst (v := 0) hx hb dL_go_14 (by decide) ?_
      refine fx_last (k := 10) (j := 0) (n := 1) hx hb hK hI oW_s (i := 0) (by unfold vp_in; decide) oW_u dL_go_15 (fun H locs hI => ?_)
      refine lv_goto (tgt := 25) hx hb dL_go_16 (by decide) ?_
      refine lv_iconst (v := 0) hx hb dL_go_25 (by decide) ?_
      exact rx_i hx hb hr hlocks hI hA hQ (Or.inl ⟨_, _, hp2, rfl, by rw [show cvZ _ = 0 from if_pos hz]⟩) (Nat.le_of_ble_eq_true rfl) (Nat.le_of_ble_eq_true rfl) dL_go_26
    · refine lv_lconst (v := 1) hx hb dL_go_10 (by decide) ?_
      refine lv_goto (tgt := 15) hx hb dL_go_11 (by decide) ?_
      refine fx_last (k := 10) (j := 0) (n := 1) hx hb hK hI oW_s (i := 0) (by unfold vp_in; decide) oW_u dL_go_15 (fun H locs hI => ?_)
      refine lv_goto (tgt := 25) hx hb dL_go_16 (by decide) ?_
      refine lv_iconst (v := 0) hx hb dL_go_25 (by decide) ?_
      exact rx_i hx hb hr hlocks hI hA hQ (Or.inl ⟨_, _, hp2, rfl, by rw [show cvZ _ = 1 from if_neg hz]⟩) (Nat.le_of_ble_eq_true rfl) (Nat.le_of_ble_eq_true rfl) dL_go_26
theorem kH_drill : CkH "IcehighwayLaw" 125 yL_drill cL_drill 4 (some .int) [(0, 8, 11, 27)] 3 := ⟨q421, q419, q420, q0, by decide +kernel⟩
theorem kLX_33 : CkV "IcehighwayLaw" 33 yX3_drill cX3_drill 3 (some .double) 1 := ⟨q425, q422, q423, q424, q1, by decide +kernel⟩
set_option maxHeartbeats 4000000 in
theorem tE_drill {Z : XZ} {S : XS} {up : Int32} {E : String} (h : (X_drill Z S up).1 = some E) : E = EIOB := by
  unfold X_drill at h
  dsimp only at h
  (repeat' split at h) <;> first | exact absurd (show (none : Option String) = some E from h) (fun z => nomatch z) | exact (Option.some.inj h).symm | exact tE_needGoods h | exact tE_pieceNumbered h | exact tE_vehicleNumbered h
set_option maxHeartbeats 4000000 in
set_option maxRecDepth 100000 in
theorem cL_drillw (G : GX) (hst : G.1.stackTraces = false) (Z : XZ) (S : XS) (b : Nat) (f : Nat → UInt64) (up : Int32) (hWZ : WZ Z) : FH G yL_drill cL_drill 4 (some .int) [(0, 8, 11, 27)] { frames := 8, cells := 1, slots := 6, locals := 125 } [.ref (Z.A 0 0), .int up, .ref b] (jn (xW G.2.2.2 G.2.1 Z S) (oD G.2.2.2 b f)) (poD G.2.2.2 (xW G.2.2.2 G.2.1 Z S) b f cvD (pvx (X_drill Z S up).1 (.double (X_drill Z S up).2.1) (xW G.2.2.2 G.2.1 Z (X_drill Z S up).2.2)) (px (X_drill Z S up).1 (xW G.2.2.2 G.2.1 Z S)) (cdL EIOB "")) := by
  refine FH.go (lv := [(0, .ref (Z.A 0 0)), (1, .int up), (2, .ref b)]) (by decide) (Nat.le_of_ble_eq_true rfl) rfl (fun p e s m args below meth c A H locs ls Q hx hb hr hts hown hml hlocks htab hK hE hI hA hl hQ => ?_)
  have hown : s.vm.findClass "IcehighwayLaw" = some m.cls := hown
  refine lv_aload_n hx hb dL_drill_0 rfl (lv_at hl 2 rfl) ?_
  refine lv_iconst (v := 0) hx hb dL_drill_1 (by decide) ?_
  refine lv_aload_n hx hb dL_drill_2 rfl (lv_at hl 0 rfl) ?_
  refine lv_iload_n hx hb dL_drill_3 rfl (lv_at hl 1 rfl) ?_
  refine jx_xcallV (rest := [.int 0, .ref b]) (as := [.int up]) hx hb hml hts hown hK hE Dj_oD hI (cX_drill G hst Z S up hWZ) kLX_33 ⟨(Nat.le_of_ble_eq_true rfl), (Nat.le_of_ble_eq_true rfl)⟩ (kk := 0) (ii := 0) (xW0 (by decide)) rfl rfl hl.1 (Nat.le_of_ble_eq_true rfl) dL_drill_4 ⟨(Nat.le_of_ble_eq_true rfl), (Nat.le_of_ble_eq_true rfl)⟩ (fun E ce q9 w' H locs hp hI g1 g2 g3 => ?_) (fun v w' H locs hp hI => ?_)
  · have hE9 := tE_drill hp.1
    subst hE9
    refine jx_catch hts hown hE htab [] (0, 8, 11, 27) [] rfl (fun z hz => by cases hz) (by decide) (by decide) q378 q389 g1 g2 g3 ?_
    refine lv_astore_n (lv' := [(3, .ref q9), (0, .ref (Z.A 0 0)), (1, .int up), (2, .ref b)]) hx hb dL_drill_11 rfl hl (by decide) rfl (fun ls hl => ?_)
    refine lv_iconst (v := 1) hx hb dL_drill_12 (by decide) ?_
    exact rx_i hx hb hr hlocks hI hA hQ (Or.inr ⟨_, hp, by decide, by rw [hp.2]⟩) (Nat.le_of_ble_eq_true rfl) (Nat.le_of_ble_eq_true rfl) dL_drill_13
  · have hp2 := hp
    obtain ⟨hT, rfl, rfl⟩ := hp
    refine fx_dast (k := 11) (j := 0) (n := 1) hx hb hK hI oD_s (i := 0) (by unfold vp_in; decide) oD_u dL_drill_7 (fun H locs hI => ?_)
    refine lv_goto (tgt := 14) hx hb dL_drill_8 (by decide) ?_
    refine lv_iconst (v := 0) hx hb dL_drill_14 (by decide) ?_
    exact rx_i hx hb hr hlocks hI hA hQ (Or.inl ⟨_, _, hp2, rfl, rfl⟩) (Nat.le_of_ble_eq_true rfl) (Nat.le_of_ble_eq_true rfl) dL_drill_15
