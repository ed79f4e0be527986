/-! ===== does: a call of the class, and what it catches ===== -/
def cdD (E : String) : Int32 := if E = EIOB then -30000000 else if E = EIAE then -20000000 else -10000000
theorem cdD_1 : cdD EIOB = -30000000 := if_pos rfl
theorem cdD_2 : cdD EIAE = -20000000 := (if_neg (by decide)).trans (if_pos rfl)
theorem cdD_3 : cdD EISE = -10000000 := (if_neg (by decide)).trans (if_neg (by decide))
def cvi (v : Value) : Int32 := match v with
  | .int y => y
  | _ => 0
def cvb (v : Value) : Int32 := match v with
  | .int y => if y = 0 then 0 else 1
  | _ => 0
theorem cvb_0 {y : Int32} (h : y = 0) : cvb (.int y) = 0 := if_pos h
theorem cvb_1 {y : Int32} (h : ¬ y = 0) : cvb (.int y) = 1 := if_neg h
def cvd (v : Value) : Int32 := match v with
  | .double y => FP.d2i (FP.dmul c2d y)
  | _ => 0
def poE (cv : Value → Int32) (po : Option Value → WD → Prop) (pX : String → WD → Prop) : Option Value → WD → Prop := fun v w' => (∃ x, po (some x) w' ∧ v = some (.int (cv x))) ∨ (∃ E, pX E w' ∧ v = some (.int (cdD E)))
theorem nn_two {t : UInt64} (ht : vf_n64 t) : vf_n64 (FP.dmul c2d t) := by
  rw [dmul_comm]
  exact (vf_core _).mpr (FP.Core.dmul_out' ((vf_core _).mp ht) (fin_of (by decide)) (nz_of (by decide)))
theorem X_drill_nn {Z : XZ} {S : XS} {up : Int32} (h : (X_drill Z S up).1 = none) : vf_n64 (X_drill Z S up).2.1 := by
  unfold X_drill at h ⊢
  dsimp only at h ⊢
  split
  · rename_i c
    first
    | exact Subtype.property _
    | (rw [c] at h; cases h)
  · first
    | exact Subtype.property _
    | exact nn_0
theorem kLX_8 : CkV "IcehighwayLaw" 8 yX3_piece cX3_piece 4 (some .int) 3 := ⟨q108, q105, q106, q107, q1, by decide +kernel⟩
theorem kLX_14 : CkV "IcehighwayLaw" 14 yX3_weather cX3_weather 3 (some .int) 1 := ⟨q344, q341, q342, q343, q1, by decide +kernel⟩
theorem kLX_18 : CkV "IcehighwayLaw" 18 yX3_snow cX3_snow 3 (some .int) 1 := ⟨q348, q345, q346, q347, q1, by decide +kernel⟩
theorem kLX_21 : CkV "IcehighwayLaw" 21 yX3_plough cX3_plough 4 (some .int) 1 := ⟨q371, q368, q369, q370, q1, by decide +kernel⟩
theorem kLX_24 : CkV "IcehighwayLaw" 24 yX3_flood cX3_flood 4 (some .int) 2 := ⟨q395, q392, q393, q394, q1, by decide +kernel⟩
theorem kLX_30 : CkV "IcehighwayLaw" 30 yX3_drill cX3_drill 3 (some .double) 1 := ⟨q409, q406, q407, q408, q1, by decide +kernel⟩
theorem kLX_34 : CkV "IcehighwayLaw" 34 yX3_open cX3_open 5 (some .int) 2 := ⟨q418, q415, q416, q417, q1, by decide +kernel⟩
theorem kLX_37 : CkV "IcehighwayLaw" 37 yX3_limit cX3_limit 5 (some .int) 2 := ⟨q422, q419, q420, q421, q1, by decide +kernel⟩
theorem kLX_40 : CkV "IcehighwayLaw" 40 yX3_gap cX3_gap 3 (some .int) 1 := ⟨q426, q423, q424, q425, q1, by decide +kernel⟩
theorem kLX_43 : CkV "IcehighwayLaw" 43 yX3_vehicle cX3_vehicle 4 (some .int) 3 := ⟨q430, q427, q428, q429, q1, by decide +kernel⟩
theorem kLX_46 : CkV "IcehighwayLaw" 46 yX3_load cX3_load 6 (some .int) 3 := ⟨q476, q473, q474, q475, q1, by decide +kernel⟩
theorem kLX_49 : CkV "IcehighwayLaw" 49 yX3_go cX3_go 3 (some .boolean) 1 := ⟨q514, q511, q512, q513, q1, by decide +kernel⟩
theorem kLX_53 : CkV "IcehighwayLaw" 53 yX3_turn cX3_turn 3 (some .boolean) 1 := ⟨q519, q516, q517, q518, q1, by decide +kernel⟩
theorem kLX_56 : CkV "IcehighwayLaw" 56 yX3_order cX3_order 3 (some .int) 2 := ⟨q532, q529, q530, q531, q1, by decide +kernel⟩
theorem kLX_59 : CkV "IcehighwayLaw" 59 yX3_pass cX3_pass 3 (some .int) 1 := ⟨q539, q536, q537, q538, q1, by decide +kernel⟩
theorem kLX_62 : CkV "IcehighwayLaw" 62 yX3_told cX3_told 4 (some .int) 2 := ⟨q635, q632, q633, q634, q1, by decide +kernel⟩
theorem kLX_65 : CkV "IcehighwayLaw" 65 yX3_ofVehicle cX3_ofVehicle 4 (some .int) 2 := ⟨q639, q636, q637, q638, q1, by decide +kernel⟩
theorem kLX_68 : CkV "IcehighwayLaw" 68 yX3_why cX3_why 3 (some .int) 1 := ⟨q643, q640, q641, q642, q1, by decide +kernel⟩
theorem kLX_71 : CkV "IcehighwayLaw" 71 yX3_kilos cX3_kilos 3 (some .int) 2 := ⟨q647, q644, q645, q646, q1, by decide +kernel⟩
theorem kLX_126 : CkV "IcehighwayLaw" 126 yX3_minute cX3_minute 1 (some .int) 0 := ⟨q661, q658, q659, q660, q1, by decide +kernel⟩
theorem kLX_130 : CkV "IcehighwayLaw" 130 yX3_thickness cX3_thickness 3 (some .double) 2 := ⟨q665, q662, q663, q664, q1, by decide +kernel⟩
theorem kLX_134 : CkV "IcehighwayLaw" 134 yX3_bears cX3_bears 3 (some .int) 2 := ⟨q673, q670, q671, q672, q1, by decide +kernel⟩
theorem kLX_137 : CkV "IcehighwayLaw" 137 yX3_speed cX3_speed 3 (some .int) 2 := ⟨q690, q687, q688, q689, q1, by decide +kernel⟩
theorem kLX_139 : CkV "IcehighwayLaw" 139 yX3_minutes cX3_minutes 3 (some .int) 2 := ⟨q700, q697, q698, q699, q1, by decide +kernel⟩
theorem kLX_141 : CkV "IcehighwayLaw" 141 yX3_minutesAnew cX3_minutesAnew 7 (some .int) 2 := ⟨q707, q704, q705, q706, q1, by decide +kernel⟩
theorem kLX_144 : CkV "IcehighwayLaw" 144 yX3_kilosAnew cX3_kilosAnew 5 (some .int) 1 := ⟨q711, q708, q709, q710, q1, by decide +kernel⟩
theorem kLX_147 : CkV "IcehighwayLaw" 147 yX3_bill cX3_bill 4 (some .long) 0 := ⟨q86, q83, q84, q85, q1, by decide +kernel⟩
theorem kw_does : CkH "IcehighwayLaw" 151 yL_does cL_does 6 (some .int) [(0, 287, 288, 74), (0, 287, 293, 77), (0, 287, 298, 80)] 5 := ⟨q101, q99, q100, q0, by decide +kernel⟩
set_option maxHeartbeats 4000000 in
theorem tE_piece {Z : XZ} {S : XS} {ui uf ud : Int32} {E : String} (h : X_piece Z S ui uf ud = some E) : E = EIAE ∨ E = EISE := by
  unfold X_piece at h
  try dsimp only at h
  (repeat' split at h) <;> first | exact absurd (show (none : Option String) = some E from h) (fun z => nomatch z) | exact Or.inl ((Option.some.inj h).symm) | exact Or.inr (((Option.some.inj h).symm)) | exact Or.inl (tE_needRange (Z := Z) (S := S) h)
set_option maxHeartbeats 4000000 in
theorem tE_weather {Z : XZ} {S : XS} {uk : Int32} {E : String} (h : (X_weather Z S uk).1 = some E) : E = EIAE := by
  unfold X_weather at h
  try dsimp only at h
  (repeat' split at h) <;> first | exact absurd (show (none : Option String) = some E from h) (fun z => nomatch z) | exact (Option.some.inj h).symm | exact tE_needRange (Z := Z) (S := S) h
set_option maxHeartbeats 4000000 in
theorem tE_snow {Z : XZ} {S : XS} {uk : Int32} {E : String} (h : (X_snow Z S uk).1 = some E) : E = EIAE := by
  unfold X_snow at h
  try dsimp only at h
  (repeat' split at h) <;> first | exact absurd (show (none : Option String) = some E from h) (fun z => nomatch z) | exact (Option.some.inj h).symm | exact tE_needRange (Z := Z) (S := S) h
set_option maxHeartbeats 4000000 in
theorem tE_plough {Z : XZ} {S : XS} {up : Int32} {E : String} (h : (X_plough Z S up).1 = some E) : E = EIOB := by
  unfold X_plough at h
  try dsimp only at h
  (repeat' split at h) <;> first | exact absurd (show (none : Option String) = some E from h) (fun z => nomatch z) | exact (Option.some.inj h).symm | exact tE_needGoods (Z := Z) (S := S) h | exact tE_pieceNumbered (Z := Z) (S := S) h | exact tE_vehicleNumbered (Z := Z) (S := S) h
set_option maxHeartbeats 4000000 in
theorem tE_flood {Z : XZ} {S : XS} {up uk : Int32} {E : String} (h : (X_flood Z S up uk).1 = some E) : E = EIOB ∨ E = EIAE ∨ E = EISE := by
  unfold X_flood at h
  try dsimp only at h
  (repeat' split at h) <;> first | exact absurd (show (none : Option String) = some E from h) (fun z => nomatch z) | exact Or.inl ((Option.some.inj h).symm) | exact Or.inr (Or.inl ((Option.some.inj h).symm)) | exact Or.inr (Or.inr (((Option.some.inj h).symm))) | exact Or.inr (Or.inl (tE_needRange (Z := Z) (S := S) h)) | exact Or.inl (tE_needGoods (Z := Z) (S := S) h) | exact Or.inl (tE_pieceNumbered (Z := Z) (S := S) h) | exact Or.inl (tE_vehicleNumbered (Z := Z) (S := S) h)
set_option maxHeartbeats 4000000 in
theorem tE_drill {Z : XZ} {S : XS} {up : Int32} {E : String} (h : (X_drill Z S up).1 = some E) : E = EIOB := by
  unfold X_drill at h
  try dsimp only at h
  (repeat' split at h) <;> first | exact absurd (show (none : Option String) = some E from h) (fun z => nomatch z) | exact (Option.some.inj h).symm | exact tE_needGoods (Z := Z) (S := S) h | exact tE_pieceNumbered (Z := Z) (S := S) h | exact tE_vehicleNumbered (Z := Z) (S := S) h
set_option maxHeartbeats 4000000 in
theorem tE_open {Z : XZ} {S : XS} {up uk : Int32} {E : String} (h : (X_open Z S up uk).1 = some E) : E = EIOB ∨ E = EIAE := by
  unfold X_open at h
  try dsimp only at h
  (repeat' split at h) <;> first | exact absurd (show (none : Option String) = some E from h) (fun z => nomatch z) | exact Or.inl ((Option.some.inj h).symm) | exact Or.inr (((Option.some.inj h).symm)) | exact Or.inr ((tE_needRange (Z := Z) (S := S) h)) | exact Or.inl (tE_needGoods (Z := Z) (S := S) h) | exact Or.inl (tE_pieceNumbered (Z := Z) (S := S) h) | exact Or.inl (tE_vehicleNumbered (Z := Z) (S := S) h)
set_option maxHeartbeats 4000000 in
theorem tE_limit {Z : XZ} {S : XS} {up uk : Int32} {E : String} (h : (X_limit Z S up uk).1 = some E) : E = EIOB ∨ E = EIAE := by
  unfold X_limit at h
  try dsimp only at h
  (repeat' split at h) <;> first | exact absurd (show (none : Option String) = some E from h) (fun z => nomatch z) | exact Or.inl ((Option.some.inj h).symm) | exact Or.inr (((Option.some.inj h).symm)) | exact Or.inr ((tE_needRange (Z := Z) (S := S) h)) | exact Or.inl (tE_needGoods (Z := Z) (S := S) h) | exact Or.inl (tE_pieceNumbered (Z := Z) (S := S) h) | exact Or.inl (tE_vehicleNumbered (Z := Z) (S := S) h)
set_option maxHeartbeats 4000000 in
theorem tE_gap {Z : XZ} {S : XS} {uk : Int32} {E : String} (h : (X_gap Z S uk).1 = some E) : E = EIAE := by
  unfold X_gap at h
  try dsimp only at h
  (repeat' split at h) <;> first | exact absurd (show (none : Option String) = some E from h) (fun z => nomatch z) | exact (Option.some.inj h).symm | exact tE_needRange (Z := Z) (S := S) h
set_option maxHeartbeats 4000000 in
theorem tE_vehicle {Z : XZ} {S : XS} {ui uf ud : Int32} {E : String} (h : X_vehicle Z S ui uf ud = some E) : E = EIAE ∨ E = EISE := by
  unfold X_vehicle at h
  try dsimp only at h
  (repeat' split at h) <;> first | exact absurd (show (none : Option String) = some E from h) (fun z => nomatch z) | exact Or.inl ((Option.some.inj h).symm) | exact Or.inr (((Option.some.inj h).symm)) | exact Or.inl (tE_needRange (Z := Z) (S := S) h)
set_option maxHeartbeats 4000000 in
theorem tE_load {Z : XZ} {S : XS} {uv ug uk : Int32} {E : String} (h : X_load Z S uv ug uk = some E) : E = EIOB ∨ E = EIAE ∨ E = EISE := by
  unfold X_load at h
  try dsimp only at h
  (repeat' split at h) <;> first | exact absurd (show (none : Option String) = some E from h) (fun z => nomatch z) | exact Or.inl ((Option.some.inj h).symm) | exact Or.inr (Or.inl ((Option.some.inj h).symm)) | exact Or.inr (Or.inr (((Option.some.inj h).symm))) | exact Or.inr (Or.inl (tE_needRange (Z := Z) (S := S) h)) | exact Or.inl (tE_needGoods (Z := Z) (S := S) h) | exact Or.inl (tE_pieceNumbered (Z := Z) (S := S) h) | exact Or.inl (tE_vehicleNumbered (Z := Z) (S := S) h)
set_option maxHeartbeats 4000000 in
theorem tE_go {Z : XZ} {S : XS} {uv : Int32} {E : String} (h : (X_go Z S uv).1 = some E) : E = EIOB ∨ E = EISE := by
  unfold X_go at h
  try dsimp only at h
  (repeat' split at h) <;> first | exact absurd (show (none : Option String) = some E from h) (fun z => nomatch z) | exact Or.inl ((Option.some.inj h).symm) | exact Or.inr (((Option.some.inj h).symm)) | exact Or.inl (tE_needGoods (Z := Z) (S := S) h) | exact Or.inl (tE_pieceNumbered (Z := Z) (S := S) h) | exact Or.inl (tE_vehicleNumbered (Z := Z) (S := S) h)
set_option maxHeartbeats 4000000 in
theorem tE_turn {Z : XZ} {S : XS} {uv : Int32} {E : String} (h : (X_turn Z S uv).1 = some E) : E = EIOB ∨ E = EISE := by
  unfold X_turn at h
  try dsimp only at h
  (repeat' split at h) <;> first | exact absurd (show (none : Option String) = some E from h) (fun z => nomatch z) | exact Or.inl ((Option.some.inj h).symm) | exact Or.inr (((Option.some.inj h).symm)) | exact Or.inl (tE_needGoods (Z := Z) (S := S) h) | exact Or.inl (tE_pieceNumbered (Z := Z) (S := S) h) | exact Or.inl (tE_vehicleNumbered (Z := Z) (S := S) h)
set_option maxHeartbeats 4000000 in
theorem tE_order {Z : XZ} {S : XS} {ug uk : Int32} {E : String} (h : (X_order Z S ug uk).1 = some E) : E = EIOB ∨ E = EIAE ∨ E = EISE := by
  unfold X_order at h
  try dsimp only at h
  (repeat' split at h) <;> first | exact absurd (show (none : Option String) = some E from h) (fun z => nomatch z) | exact Or.inl ((Option.some.inj h).symm) | exact Or.inr (Or.inl ((Option.some.inj h).symm)) | exact Or.inr (Or.inr (((Option.some.inj h).symm))) | exact Or.inr (Or.inl (tE_needRange (Z := Z) (S := S) h)) | exact Or.inl (tE_needGoods (Z := Z) (S := S) h) | exact Or.inl (tE_pieceNumbered (Z := Z) (S := S) h) | exact Or.inl (tE_vehicleNumbered (Z := Z) (S := S) h)
set_option maxHeartbeats 4000000 in
theorem tE_pass {Z : XZ} {S : XS} {uk : Int32} {E : String} (h : (X_pass Z S uk).1 = some E) : E = EIAE ∨ E = EISE := by
  unfold X_pass at h
  try dsimp only at h
  (repeat' split at h) <;> first | exact absurd (show (none : Option String) = some E from h) (fun z => nomatch z) | exact Or.inl ((Option.some.inj h).symm) | exact Or.inr (((Option.some.inj h).symm)) | exact Or.inl (tE_needRange (Z := Z) (S := S) h)
set_option maxHeartbeats 4000000 in
theorem tE_told {Z : XZ} {S : XS} {up uk : Int32} {E : String} (h : (X_told Z S up uk).1 = some E) : E = EIOB ∨ E = EIAE := by
  unfold X_told at h
  try dsimp only at h
  (repeat' split at h) <;> first | exact absurd (show (none : Option String) = some E from h) (fun z => nomatch z) | exact Or.inl ((Option.some.inj h).symm) | exact Or.inr (((Option.some.inj h).symm)) | exact Or.inr ((tE_needRange (Z := Z) (S := S) h)) | exact Or.inl (tE_needGoods (Z := Z) (S := S) h) | exact Or.inl (tE_pieceNumbered (Z := Z) (S := S) h) | exact Or.inl (tE_vehicleNumbered (Z := Z) (S := S) h)
set_option maxHeartbeats 4000000 in
theorem tE_ofVehicle {Z : XZ} {S : XS} {uv uk : Int32} {E : String} (h : (X_ofVehicle Z S uv uk).1 = some E) : E = EIOB ∨ E = EIAE := by
  unfold X_ofVehicle at h
  try dsimp only at h
  (repeat' split at h) <;> first | exact absurd (show (none : Option String) = some E from h) (fun z => nomatch z) | exact Or.inl ((Option.some.inj h).symm) | exact Or.inr (((Option.some.inj h).symm)) | exact Or.inr ((tE_needRange (Z := Z) (S := S) h)) | exact Or.inl (tE_needGoods (Z := Z) (S := S) h) | exact Or.inl (tE_pieceNumbered (Z := Z) (S := S) h) | exact Or.inl (tE_vehicleNumbered (Z := Z) (S := S) h)
set_option maxHeartbeats 4000000 in
theorem tE_why {Z : XZ} {S : XS} {uv : Int32} {E : String} (h : (X_why Z S uv).1 = some E) : E = EIOB := by
  unfold X_why at h
  try dsimp only at h
  (repeat' split at h) <;> first | exact absurd (show (none : Option String) = some E from h) (fun z => nomatch z) | exact (Option.some.inj h).symm | exact tE_needGoods (Z := Z) (S := S) h | exact tE_pieceNumbered (Z := Z) (S := S) h | exact tE_vehicleNumbered (Z := Z) (S := S) h
set_option maxHeartbeats 4000000 in
theorem tE_kilos {Z : XZ} {S : XS} {ug uk : Int32} {E : String} (h : (X_kilos Z S ug uk).1 = some E) : E = EIOB ∨ E = EIAE := by
  unfold X_kilos at h
  try dsimp only at h
  (repeat' split at h) <;> first | exact absurd (show (none : Option String) = some E from h) (fun z => nomatch z) | exact Or.inl ((Option.some.inj h).symm) | exact Or.inr (((Option.some.inj h).symm)) | exact Or.inr ((tE_needRange (Z := Z) (S := S) h)) | exact Or.inl (tE_needGoods (Z := Z) (S := S) h) | exact Or.inl (tE_pieceNumbered (Z := Z) (S := S) h) | exact Or.inl (tE_vehicleNumbered (Z := Z) (S := S) h)
set_option maxHeartbeats 4000000 in
set_option maxRecDepth 100000 in
theorem qD_piece (G : GX) (hst : G.1.stackTraces = false) (Z : XZ) (S : XS) (ua ub uc : Int32) (hWZ : WZ Z) (hC : CW Z S) : FH G yL_does cL_does 6 (some .int) [(0, 287, 288, 74), (0, 287, 293, 77), (0, 287, 298, 80)] { frames := 8, cells := 5, slots := 802, locals := 236 } [.ref (Z.A 0 0), .int 0, .int ua, .int ub, .int uc] (xW G.2.2.2 G.2.1 Z S) (poE cvi (fun v w' => (X_piece Z S ua ub uc) = none ∧ v = some (.int (nI (Z.N 0))) ∧ ∃ h1 h2 : Nat, w' = xW G.2.2.2 G.2.1 (zA Z 0 h1 h2) (xset (X_iPiece (zO Z 1 h1) (xz S 1 (Z.O 1)) (Z.O 1) ua ub uc) 6 0 0 ((X_iPiece (zO Z 1 h1) (xz S 1 (Z.O 1)) (Z.O 1) ua ub uc).1 6 0 0 + 1))) (px (X_piece Z S ua ub uc) (xW G.2.2.2 G.2.1 Z S))) := by
  refine FH.go (lv := [(0, .ref (Z.A 0 0)), (1, .int 0), (2, .int ua), (3, .int ub), (4, .int uc)]) (by decide) (Nat.le_of_ble_eq_true rfl) rfl (fun p e s m args below meth c A H locs ls Q hx hb hr hts hown hml hlocks htab hK hE hI hA hl hQ => ?_)
  have hown : s.vm.findClass "IcehighwayLaw" = some m.cls := hown
  refine lv_iload_n hx hb dL_does_0 rfl (lv_at hl 1 rfl) ?_
  refine lv_if_ne (tgt := 15) hx hb dL_does_1 (by decide) (fun h => absurd (by decide) h) (fun _ => ?_)
  refine lv_aload_n hx hb dL_does_4 rfl (lv_at hl 0 rfl) ?_
  refine lv_iload_n hx hb dL_does_5 rfl (lv_at hl 2 rfl) ?_
  refine lv_iload_n hx hb dL_does_6 rfl (lv_at hl 3 rfl) ?_
  refine lv_iload hx hb dL_does_7 (lv_at hl 4 rfl) ?_
  refine fx_xcallV (rest := []) (as := [.int ua, .int ub, .int uc]) hx hb hml hts hown hK hE hI (cX_piece G hst Z S ua ub uc hWZ hC) kLX_8 ⟨(Nat.le_of_ble_eq_true rfl), (Nat.le_of_ble_eq_true rfl)⟩ (kk := 0) (ii := 0) (xW0 (by decide)) rfl rfl hl.1 (Nat.le_of_ble_eq_true rfl) dL_does_9 ⟨(Nat.le_of_ble_eq_true rfl), (Nat.le_of_ble_eq_true rfl)⟩ (fun E ce q9 w' H locs hp hI g1 g2 g3 => ?_) (fun v w' H locs hp hI => ?_)
  · obtain ⟨hpT, rfl⟩ := hp
    have hE9 := tE_piece hpT
    rcases hE9 with rfl | rfl
    · refine jx_catch hts hown hE htab [(0, 287, 288, 74)] (0, 287, 293, 77) [(0, 287, 298, 80)] rfl (fun z hz => by
        simp only [List.mem_cons, List.not_mem_nil, or_false] at hz
        subst hz
        · exact ⟨by decide, _, q102, by decide⟩) (by decide) (by decide) q103 q114 g1 g2 g3 ?_
      refine lv_astore (lv' := [(5, .ref q9), (0, .ref (Z.A 0 0)), (1, .int 0), (2, .int ua), (3, .int ub), (4, .int uc)]) hx hb dL_does_293 hl (by decide) rfl (fun ls hl => ?_)
      refine lv_ldc (v := -20000000) hx hb hown (hts _ q653) dL_does_295 ?_
      exact rx_i hx hb hr hlocks hI hA hQ (Or.inr ⟨EIAE, ⟨hpT, rfl⟩, congrArg (fun z => some (Value.int z)) cdD_2.symm⟩) (Nat.le_of_ble_eq_true rfl) (Nat.le_of_ble_eq_true rfl) dL_does_297
    · refine jx_catch hts hown hE htab [(0, 287, 288, 74), (0, 287, 293, 77)] (0, 287, 298, 80) [] rfl (fun z hz => by
        simp only [List.mem_cons, List.not_mem_nil, or_false] at hz
        rcases hz with rfl | rfl
        · exact ⟨by decide, _, q102, by decide⟩
        · exact ⟨by decide, _, q103, by decide⟩) (by decide) (by decide) q104 q201 g1 g2 g3 ?_
      refine lv_astore (lv' := [(5, .ref q9), (0, .ref (Z.A 0 0)), (1, .int 0), (2, .int ua), (3, .int ub), (4, .int uc)]) hx hb dL_does_298 hl (by decide) rfl (fun ls hl => ?_)
      refine lv_ldc (v := -10000000) hx hb hown (hts _ q654) dL_does_300 ?_
      exact rx_i hx hb hr hlocks hI hA hQ (Or.inr ⟨EISE, ⟨hpT, rfl⟩, congrArg (fun z => some (Value.int z)) cdD_3.symm⟩) (Nat.le_of_ble_eq_true rfl) (Nat.le_of_ble_eq_true rfl) dL_does_302
  · have hp2 := hp
    obtain ⟨hT, rfl, h1, h2, rfl⟩ := hp
    refine lv_goto (tgt := 287) hx hb dL_does_12 (by decide) ?_
    exact rx_i hx hb hr hlocks hI hA hQ (Or.inl ⟨_, hp2, rfl⟩) (Nat.le_of_ble_eq_true rfl) (Nat.le_of_ble_eq_true rfl) dL_does_287
set_option maxHeartbeats 4000000 in
set_option maxRecDepth 100000 in
theorem qD_weather (G : GX) (hst : G.1.stackTraces = false) (Z : XZ) (S : XS) (ua ub uc : Int32) : FH G yL_does cL_does 6 (some .int) [(0, 287, 288, 74), (0, 287, 293, 77), (0, 287, 298, 80)] { frames := 8, cells := 1, slots := 6, locals := 126 } [.ref (Z.A 0 0), .int 1, .int ua, .int ub, .int uc] (xW G.2.2.2 G.2.1 Z S) (poE cvi (pvx (X_weather Z S ua).1 (.int (X_weather Z S ua).2.1) (xW G.2.2.2 G.2.1 Z (X_weather Z S ua).2.2)) (px (X_weather Z S ua).1 (xW G.2.2.2 G.2.1 Z S))) := by
  refine FH.go (lv := [(0, .ref (Z.A 0 0)), (1, .int 1), (2, .int ua), (3, .int ub), (4, .int uc)]) (by decide) (Nat.le_of_ble_eq_true rfl) rfl (fun p e s m args below meth c A H locs ls Q hx hb hr hts hown hml hlocks htab hK hE hI hA hl hQ => ?_)
  have hown : s.vm.findClass "IcehighwayLaw" = some m.cls := hown
  refine lv_iload_n hx hb dL_does_0 rfl (lv_at hl 1 rfl) ?_
  refine lv_if_ne (tgt := 15) hx hb dL_does_1 (by decide) (fun _ => ?_) (fun h => absurd h (by decide))
  refine lv_iload_n hx hb dL_does_15 rfl (lv_at hl 1 rfl) ?_
  refine lv_iconst (v := 1) hx hb dL_does_16 (by decide) ?_
  refine lv_icmp_ne (tgt := 28) hx hb dL_does_17 (by decide) (fun h => absurd (by decide) h) (fun _ => ?_)
  refine lv_aload_n hx hb dL_does_20 rfl (lv_at hl 0 rfl) ?_
  refine lv_iload_n hx hb dL_does_21 rfl (lv_at hl 2 rfl) ?_
  refine fx_xcallV (rest := []) (as := [.int ua]) hx hb hml hts hown hK hE hI (cX_weather G hst Z S ua) kLX_14 ⟨(Nat.le_of_ble_eq_true rfl), (Nat.le_of_ble_eq_true rfl)⟩ (kk := 0) (ii := 0) (xW0 (by decide)) rfl rfl hl.1 (Nat.le_of_ble_eq_true rfl) dL_does_22 ⟨(Nat.le_of_ble_eq_true rfl), (Nat.le_of_ble_eq_true rfl)⟩ (fun E ce q9 w' H locs hp hI g1 g2 g3 => ?_) (fun v w' H locs hp hI => ?_)
  · obtain ⟨hpT, rfl⟩ := hp
    have hE9 := tE_weather hpT
    subst hE9
    refine jx_catch hts hown hE htab [(0, 287, 288, 74)] (0, 287, 293, 77) [(0, 287, 298, 80)] rfl (fun z hz => by
        simp only [List.mem_cons, List.not_mem_nil, or_false] at hz
        subst hz
        · exact ⟨by decide, _, q102, by decide⟩) (by decide) (by decide) q103 q114 g1 g2 g3 ?_
    refine lv_astore (lv' := [(5, .ref q9), (0, .ref (Z.A 0 0)), (1, .int 1), (2, .int ua), (3, .int ub), (4, .int uc)]) hx hb dL_does_293 hl (by decide) rfl (fun ls hl => ?_)
    refine lv_ldc (v := -20000000) hx hb hown (hts _ q653) dL_does_295 ?_
    exact rx_i hx hb hr hlocks hI hA hQ (Or.inr ⟨EIAE, ⟨hpT, rfl⟩, congrArg (fun z => some (Value.int z)) cdD_2.symm⟩) (Nat.le_of_ble_eq_true rfl) (Nat.le_of_ble_eq_true rfl) dL_does_297
  · have hp2 := hp
    obtain ⟨hT, rfl, rfl⟩ := hp
    refine lv_goto (tgt := 287) hx hb dL_does_25 (by decide) ?_
    exact rx_i hx hb hr hlocks hI hA hQ (Or.inl ⟨_, hp2, rfl⟩) (Nat.le_of_ble_eq_true rfl) (Nat.le_of_ble_eq_true rfl) dL_does_287
set_option maxHeartbeats 4000000 in
set_option maxRecDepth 100000 in
theorem qD_snow (G : GX) (hst : G.1.stackTraces = false) (Z : XZ) (S : XS) (ua ub uc : Int32) (hWZ : WZ Z) : FH G yL_does cL_does 6 (some .int) [(0, 287, 288, 74), (0, 287, 293, 77), (0, 287, 298, 80)] { frames := 8, cells := 1, slots := 6, locals := 126 } [.ref (Z.A 0 0), .int 2, .int ua, .int ub, .int uc] (xW G.2.2.2 G.2.1 Z S) (poE cvi (pvx (X_snow Z S ua).1 (.int (X_snow Z S ua).2.1) (xW G.2.2.2 G.2.1 Z (X_snow Z S ua).2.2)) (px (X_snow Z S ua).1 (xW G.2.2.2 G.2.1 Z S))) := by
  refine FH.go (lv := [(0, .ref (Z.A 0 0)), (1, .int 2), (2, .int ua), (3, .int ub), (4, .int uc)]) (by decide) (Nat.le_of_ble_eq_true rfl) rfl (fun p e s m args below meth c A H locs ls Q hx hb hr hts hown hml hlocks htab hK hE hI hA hl hQ => ?_)
  have hown : s.vm.findClass "IcehighwayLaw" = some m.cls := hown
  refine lv_iload_n hx hb dL_does_0 rfl (lv_at hl 1 rfl) ?_
  refine lv_if_ne (tgt := 15) hx hb dL_does_1 (by decide) (fun _ => ?_) (fun h => absurd h (by decide))
  refine lv_iload_n hx hb dL_does_15 rfl (lv_at hl 1 rfl) ?_
  refine lv_iconst (v := 1) hx hb dL_does_16 (by decide) ?_
  refine lv_icmp_ne (tgt := 28) hx hb dL_does_17 (by decide) (fun _ => ?_) (fun h => absurd h (by decide))
  refine lv_iload_n hx hb dL_does_28 rfl (lv_at hl 1 rfl) ?_
  refine lv_iconst (v := 2) hx hb dL_does_29 (by decide) ?_
  refine lv_icmp_ne (tgt := 41) hx hb dL_does_30 (by decide) (fun h => absurd (by decide) h) (fun _ => ?_)
  refine lv_aload_n hx hb dL_does_33 rfl (lv_at hl 0 rfl) ?_
  refine lv_iload_n hx hb dL_does_34 rfl (lv_at hl 2 rfl) ?_
  refine fx_xcallV (rest := []) (as := [.int ua]) hx hb hml hts hown hK hE hI (cX_snow G hst Z S ua hWZ) kLX_18 ⟨(Nat.le_of_ble_eq_true rfl), (Nat.le_of_ble_eq_true rfl)⟩ (kk := 0) (ii := 0) (xW0 (by decide)) rfl rfl hl.1 (Nat.le_of_ble_eq_true rfl) dL_does_35 ⟨(Nat.le_of_ble_eq_true rfl), (Nat.le_of_ble_eq_true rfl)⟩ (fun E ce q9 w' H locs hp hI g1 g2 g3 => ?_) (fun v w' H locs hp hI => ?_)
  · obtain ⟨hpT, rfl⟩ := hp
    have hE9 := tE_snow hpT
    subst hE9
    refine jx_catch hts hown hE htab [(0, 287, 288, 74)] (0, 287, 293, 77) [(0, 287, 298, 80)] rfl (fun z hz => by
        simp only [List.mem_cons, List.not_mem_nil, or_false] at hz
        subst hz
        · exact ⟨by decide, _, q102, by decide⟩) (by decide) (by decide) q103 q114 g1 g2 g3 ?_
    refine lv_astore (lv' := [(5, .ref q9), (0, .ref (Z.A 0 0)), (1, .int 2), (2, .int ua), (3, .int ub), (4, .int uc)]) hx hb dL_does_293 hl (by decide) rfl (fun ls hl => ?_)
    refine lv_ldc (v := -20000000) hx hb hown (hts _ q653) dL_does_295 ?_
    exact rx_i hx hb hr hlocks hI hA hQ (Or.inr ⟨EIAE, ⟨hpT, rfl⟩, congrArg (fun z => some (Value.int z)) cdD_2.symm⟩) (Nat.le_of_ble_eq_true rfl) (Nat.le_of_ble_eq_true rfl) dL_does_297
  · have hp2 := hp
    obtain ⟨hT, rfl, rfl⟩ := hp
    refine lv_goto (tgt := 287) hx hb dL_does_38 (by decide) ?_
    exact rx_i hx hb hr hlocks hI hA hQ (Or.inl ⟨_, hp2, rfl⟩) (Nat.le_of_ble_eq_true rfl) (Nat.le_of_ble_eq_true rfl) dL_does_287
set_option maxHeartbeats 4000000 in
set_option maxRecDepth 100000 in
theorem qD_plough (G : GX) (hst : G.1.stackTraces = false) (Z : XZ) (S : XS) (ua ub uc : Int32) (hWZ : WZ Z) : FH G yL_does cL_does 6 (some .int) [(0, 287, 288, 74), (0, 287, 293, 77), (0, 287, 298, 80)] { frames := 8, cells := 1, slots := 6, locals := 126 } [.ref (Z.A 0 0), .int 3, .int ua, .int ub, .int uc] (xW G.2.2.2 G.2.1 Z S) (poE cvi (pvx (X_plough Z S ua).1 (.int (X_plough Z S ua).2.1) (xW G.2.2.2 G.2.1 Z (X_plough Z S ua).2.2)) (px (X_plough Z S ua).1 (xW G.2.2.2 G.2.1 Z S))) := by
  refine FH.go (lv := [(0, .ref (Z.A 0 0)), (1, .int 3), (2, .int ua), (3, .int ub), (4, .int uc)]) (by decide) (Nat.le_of_ble_eq_true rfl) rfl (fun p e s m args below meth c A H locs ls Q hx hb hr hts hown hml hlocks htab hK hE hI hA hl hQ => ?_)
  have hown : s.vm.findClass "IcehighwayLaw" = some m.cls := hown
  refine lv_iload_n hx hb dL_does_0 rfl (lv_at hl 1 rfl) ?_
  refine lv_if_ne (tgt := 15) hx hb dL_does_1 (by decide) (fun _ => ?_) (fun h => absurd h (by decide))
  refine lv_iload_n hx hb dL_does_15 rfl (lv_at hl 1 rfl) ?_
  refine lv_iconst (v := 1) hx hb dL_does_16 (by decide) ?_
  refine lv_icmp_ne (tgt := 28) hx hb dL_does_17 (by decide) (fun _ => ?_) (fun h => absurd h (by decide))
  refine lv_iload_n hx hb dL_does_28 rfl (lv_at hl 1 rfl) ?_
  refine lv_iconst (v := 2) hx hb dL_does_29 (by decide) ?_
  refine lv_icmp_ne (tgt := 41) hx hb dL_does_30 (by decide) (fun _ => ?_) (fun h => absurd h (by decide))
  refine lv_iload_n hx hb dL_does_41 rfl (lv_at hl 1 rfl) ?_
  refine lv_iconst (v := 3) hx hb dL_does_42 (by decide) ?_
  refine lv_icmp_ne (tgt := 54) hx hb dL_does_43 (by decide) (fun h => absurd (by decide) h) (fun _ => ?_)
  refine lv_aload_n hx hb dL_does_46 rfl (lv_at hl 0 rfl) ?_
  refine lv_iload_n hx hb dL_does_47 rfl (lv_at hl 2 rfl) ?_
  refine fx_xcallV (rest := []) (as := [.int ua]) hx hb hml hts hown hK hE hI (cX_plough G hst Z S ua hWZ) kLX_21 ⟨(Nat.le_of_ble_eq_true rfl), (Nat.le_of_ble_eq_true rfl)⟩ (kk := 0) (ii := 0) (xW0 (by decide)) rfl rfl hl.1 (Nat.le_of_ble_eq_true rfl) dL_does_48 ⟨(Nat.le_of_ble_eq_true rfl), (Nat.le_of_ble_eq_true rfl)⟩ (fun E ce q9 w' H locs hp hI g1 g2 g3 => ?_) (fun v w' H locs hp hI => ?_)
  · obtain ⟨hpT, rfl⟩ := hp
    have hE9 := tE_plough hpT
    subst hE9
    refine jx_catch hts hown hE htab [] (0, 287, 288, 74) [(0, 287, 293, 77), (0, 287, 298, 80)] rfl (fun z hz => by cases hz) (by decide) (by decide) q102 q378 g1 g2 g3 ?_
    refine lv_astore (lv' := [(5, .ref q9), (0, .ref (Z.A 0 0)), (1, .int 3), (2, .int ua), (3, .int ub), (4, .int uc)]) hx hb dL_does_288 hl (by decide) rfl (fun ls hl => ?_)
    refine lv_ldc (v := -30000000) hx hb hown (hts _ q652) dL_does_290 ?_
    exact rx_i hx hb hr hlocks hI hA hQ (Or.inr ⟨EIOB, ⟨hpT, rfl⟩, congrArg (fun z => some (Value.int z)) cdD_1.symm⟩) (Nat.le_of_ble_eq_true rfl) (Nat.le_of_ble_eq_true rfl) dL_does_292
  · have hp2 := hp
    obtain ⟨hT, rfl, rfl⟩ := hp
    refine lv_goto (tgt := 287) hx hb dL_does_51 (by decide) ?_
    exact rx_i hx hb hr hlocks hI hA hQ (Or.inl ⟨_, hp2, rfl⟩) (Nat.le_of_ble_eq_true rfl) (Nat.le_of_ble_eq_true rfl) dL_does_287
set_option maxHeartbeats 4000000 in
set_option maxRecDepth 100000 in
theorem qD_flood (G : GX) (hst : G.1.stackTraces = false) (Z : XZ) (S : XS) (ua ub uc : Int32) (hWZ : WZ Z) : FH G yL_does cL_does 6 (some .int) [(0, 287, 288, 74), (0, 287, 293, 77), (0, 287, 298, 80)] { frames := 8, cells := 3, slots := 18, locals := 127 } [.ref (Z.A 0 0), .int 4, .int ua, .int ub, .int uc] (xW G.2.2.2 G.2.1 Z S) (poE cvi (pvx (X_flood Z S ua ub).1 (.int (X_flood Z S ua ub).2.1) (xW G.2.2.2 G.2.1 Z (X_flood Z S ua ub).2.2)) (px (X_flood Z S ua ub).1 (xW G.2.2.2 G.2.1 Z S))) := by
  refine FH.go (lv := [(0, .ref (Z.A 0 0)), (1, .int 4), (2, .int ua), (3, .int ub), (4, .int uc)]) (by decide) (Nat.le_of_ble_eq_true rfl) rfl (fun p e s m args below meth c A H locs ls Q hx hb hr hts hown hml hlocks htab hK hE hI hA hl hQ => ?_)
  have hown : s.vm.findClass "IcehighwayLaw" = some m.cls := hown
  refine lv_iload_n hx hb dL_does_0 rfl (lv_at hl 1 rfl) ?_
  refine lv_if_ne (tgt := 15) hx hb dL_does_1 (by decide) (fun _ => ?_) (fun h => absurd h (by decide))
  refine lv_iload_n hx hb dL_does_15 rfl (lv_at hl 1 rfl) ?_
  refine lv_iconst (v := 1) hx hb dL_does_16 (by decide) ?_
  refine lv_icmp_ne (tgt := 28) hx hb dL_does_17 (by decide) (fun _ => ?_) (fun h => absurd h (by decide))
  refine lv_iload_n hx hb dL_does_28 rfl (lv_at hl 1 rfl) ?_
  refine lv_iconst (v := 2) hx hb dL_does_29 (by decide) ?_
  refine lv_icmp_ne (tgt := 41) hx hb dL_does_30 (by decide) (fun _ => ?_) (fun h => absurd h (by decide))
  refine lv_iload_n hx hb dL_does_41 rfl (lv_at hl 1 rfl) ?_
  refine lv_iconst (v := 3) hx hb dL_does_42 (by decide) ?_
  refine lv_icmp_ne (tgt := 54) hx hb dL_does_43 (by decide) (fun _ => ?_) (fun h => absurd h (by decide))
  refine lv_iload_n hx hb dL_does_54 rfl (lv_at hl 1 rfl) ?_
  refine lv_iconst (v := 4) hx hb dL_does_55 (by decide) ?_
  refine lv_icmp_ne (tgt := 68) hx hb dL_does_56 (by decide) (fun h => absurd (by decide) h) (fun _ => ?_)
  refine lv_aload_n hx hb dL_does_59 rfl (lv_at hl 0 rfl) ?_
  refine lv_iload_n hx hb dL_does_60 rfl (lv_at hl 2 rfl) ?_
  refine lv_iload_n hx hb dL_does_61 rfl (lv_at hl 3 rfl) ?_
  refine fx_xcallV (rest := []) (as := [.int ua, .int ub]) hx hb hml hts hown hK hE hI (cX_flood G hst Z S ua ub hWZ) kLX_24 ⟨(Nat.le_of_ble_eq_true rfl), (Nat.le_of_ble_eq_true rfl)⟩ (kk := 0) (ii := 0) (xW0 (by decide)) rfl rfl hl.1 (Nat.le_of_ble_eq_true rfl) dL_does_62 ⟨(Nat.le_of_ble_eq_true rfl), (Nat.le_of_ble_eq_true rfl)⟩ (fun E ce q9 w' H locs hp hI g1 g2 g3 => ?_) (fun v w' H locs hp hI => ?_)
  · obtain ⟨hpT, rfl⟩ := hp
    have hE9 := tE_flood hpT
    rcases hE9 with rfl | rfl | rfl
    · refine jx_catch hts hown hE htab [] (0, 287, 288, 74) [(0, 287, 293, 77), (0, 287, 298, 80)] rfl (fun z hz => by cases hz) (by decide) (by decide) q102 q378 g1 g2 g3 ?_
      refine lv_astore (lv' := [(5, .ref q9), (0, .ref (Z.A 0 0)), (1, .int 4), (2, .int ua), (3, .int ub), (4, .int uc)]) hx hb dL_does_288 hl (by decide) rfl (fun ls hl => ?_)
      refine lv_ldc (v := -30000000) hx hb hown (hts _ q652) dL_does_290 ?_
      exact rx_i hx hb hr hlocks hI hA hQ (Or.inr ⟨EIOB, ⟨hpT, rfl⟩, congrArg (fun z => some (Value.int z)) cdD_1.symm⟩) (Nat.le_of_ble_eq_true rfl) (Nat.le_of_ble_eq_true rfl) dL_does_292
    · refine jx_catch hts hown hE htab [(0, 287, 288, 74)] (0, 287, 293, 77) [(0, 287, 298, 80)] rfl (fun z hz => by
        simp only [List.mem_cons, List.not_mem_nil, or_false] at hz
        subst hz
        · exact ⟨by decide, _, q102, by decide⟩) (by decide) (by decide) q103 q114 g1 g2 g3 ?_
      refine lv_astore (lv' := [(5, .ref q9), (0, .ref (Z.A 0 0)), (1, .int 4), (2, .int ua), (3, .int ub), (4, .int uc)]) hx hb dL_does_293 hl (by decide) rfl (fun ls hl => ?_)
      refine lv_ldc (v := -20000000) hx hb hown (hts _ q653) dL_does_295 ?_
      exact rx_i hx hb hr hlocks hI hA hQ (Or.inr ⟨EIAE, ⟨hpT, rfl⟩, congrArg (fun z => some (Value.int z)) cdD_2.symm⟩) (Nat.le_of_ble_eq_true rfl) (Nat.le_of_ble_eq_true rfl) dL_does_297
    · refine jx_catch hts hown hE htab [(0, 287, 288, 74), (0, 287, 293, 77)] (0, 287, 298, 80) [] rfl (fun z hz => by
        simp only [List.mem_cons, List.not_mem_nil, or_false] at hz
        rcases hz with rfl | rfl
        · exact ⟨by decide, _, q102, by decide⟩
        · exact ⟨by decide, _, q103, by decide⟩) (by decide) (by decide) q104 q201 g1 g2 g3 ?_
      refine lv_astore (lv' := [(5, .ref q9), (0, .ref (Z.A 0 0)), (1, .int 4), (2, .int ua), (3, .int ub), (4, .int uc)]) hx hb dL_does_298 hl (by decide) rfl (fun ls hl => ?_)
      refine lv_ldc (v := -10000000) hx hb hown (hts _ q654) dL_does_300 ?_
      exact rx_i hx hb hr hlocks hI hA hQ (Or.inr ⟨EISE, ⟨hpT, rfl⟩, congrArg (fun z => some (Value.int z)) cdD_3.symm⟩) (Nat.le_of_ble_eq_true rfl) (Nat.le_of_ble_eq_true rfl) dL_does_302
  · have hp2 := hp
    obtain ⟨hT, rfl, rfl⟩ := hp
    refine lv_goto (tgt := 287) hx hb dL_does_65 (by decide) ?_
    exact rx_i hx hb hr hlocks hI hA hQ (Or.inl ⟨_, hp2, rfl⟩) (Nat.le_of_ble_eq_true rfl) (Nat.le_of_ble_eq_true rfl) dL_does_287
set_option maxHeartbeats 4000000 in
set_option maxRecDepth 100000 in
theorem qD_drill (G : GX) (hst : G.1.stackTraces = false) (Z : XZ) (S : XS) (ua ub uc : Int32) (hWZ : WZ Z) : FH G yL_does cL_does 6 (some .int) [(0, 287, 288, 74), (0, 287, 293, 77), (0, 287, 298, 80)] { frames := 8, cells := 1, slots := 6, locals := 125 } [.ref (Z.A 0 0), .int 5, .int ua, .int ub, .int uc] (xW G.2.2.2 G.2.1 Z S) (poE cvd (pvx (X_drill Z S ua).1 (.double (X_drill Z S ua).2.1) (xW G.2.2.2 G.2.1 Z (X_drill Z S ua).2.2)) (px (X_drill Z S ua).1 (xW G.2.2.2 G.2.1 Z S))) := by
  refine FH.go (lv := [(0, .ref (Z.A 0 0)), (1, .int 5), (2, .int ua), (3, .int ub), (4, .int uc)]) (by decide) (Nat.le_of_ble_eq_true rfl) rfl (fun p e s m args below meth c A H locs ls Q hx hb hr hts hown hml hlocks htab hK hE hI hA hl hQ => ?_)
  have hown : s.vm.findClass "IcehighwayLaw" = some m.cls := hown
  refine lv_iload_n hx hb dL_does_0 rfl (lv_at hl 1 rfl) ?_
  refine lv_if_ne (tgt := 15) hx hb dL_does_1 (by decide) (fun _ => ?_) (fun h => absurd h (by decide))
  refine lv_iload_n hx hb dL_does_15 rfl (lv_at hl 1 rfl) ?_
  refine lv_iconst (v := 1) hx hb dL_does_16 (by decide) ?_
  refine lv_icmp_ne (tgt := 28) hx hb dL_does_17 (by decide) (fun _ => ?_) (fun h => absurd h (by decide))
  refine lv_iload_n hx hb dL_does_28 rfl (lv_at hl 1 rfl) ?_
  refine lv_iconst (v := 2) hx hb dL_does_29 (by decide) ?_
  refine lv_icmp_ne (tgt := 41) hx hb dL_does_30 (by decide) (fun _ => ?_) (fun h => absurd h (by decide))
  refine lv_iload_n hx hb dL_does_41 rfl (lv_at hl 1 rfl) ?_
  refine lv_iconst (v := 3) hx hb dL_does_42 (by decide) ?_
  refine lv_icmp_ne (tgt := 54) hx hb dL_does_43 (by decide) (fun _ => ?_) (fun h => absurd h (by decide))
  refine lv_iload_n hx hb dL_does_54 rfl (lv_at hl 1 rfl) ?_
  refine lv_iconst (v := 4) hx hb dL_does_55 (by decide) ?_
  refine lv_icmp_ne (tgt := 68) hx hb dL_does_56 (by decide) (fun _ => ?_) (fun h => absurd h (by decide))
  refine lv_iload_n hx hb dL_does_68 rfl (lv_at hl 1 rfl) ?_
  refine lv_iconst (v := 5) hx hb dL_does_69 (by decide) ?_
  refine lv_icmp_ne (tgt := 86) hx hb dL_does_70 (by decide) (fun h => absurd (by decide) h) (fun _ => ?_)
  refine lv_ldc2d (v := 4611686018427387904) hx hb hown (hts _ q405) dL_does_73 ?_
  refine lv_aload_n hx hb dL_does_76 rfl (lv_at hl 0 rfl) ?_
  refine lv_iload_n hx hb dL_does_77 rfl (lv_at hl 2 rfl) ?_
  refine fx_xcallV (rest := [.double (4611686018427387904 : UInt64)]) (as := [.int ua]) hx hb hml hts hown hK hE hI (cX_drill G hst Z S ua hWZ) kLX_30 ⟨(Nat.le_of_ble_eq_true rfl), (Nat.le_of_ble_eq_true rfl)⟩ (kk := 0) (ii := 0) (xW0 (by decide)) rfl rfl hl.1 (Nat.le_of_ble_eq_true rfl) dL_does_78 ⟨(Nat.le_of_ble_eq_true rfl), (Nat.le_of_ble_eq_true rfl)⟩ (fun E ce q9 w' H locs hp hI g1 g2 g3 => ?_) (fun v w' H locs hp hI => ?_)
  · obtain ⟨hpT, rfl⟩ := hp
    have hE9 := tE_drill hpT
    subst hE9
    refine jx_catch hts hown hE htab [] (0, 287, 288, 74) [(0, 287, 293, 77), (0, 287, 298, 80)] rfl (fun z hz => by cases hz) (by decide) (by decide) q102 q378 g1 g2 g3 ?_
    refine lv_astore (lv' := [(5, .ref q9), (0, .ref (Z.A 0 0)), (1, .int 5), (2, .int ua), (3, .int ub), (4, .int uc)]) hx hb dL_does_288 hl (by decide) rfl (fun ls hl => ?_)
    refine lv_ldc (v := -30000000) hx hb hown (hts _ q652) dL_does_290 ?_
    exact rx_i hx hb hr hlocks hI hA hQ (Or.inr ⟨EIOB, ⟨hpT, rfl⟩, congrArg (fun z => some (Value.int z)) cdD_1.symm⟩) (Nat.le_of_ble_eq_true rfl) (Nat.le_of_ble_eq_true rfl) dL_does_292
  · have hp2 := hp
    obtain ⟨hT, rfl, rfl⟩ := hp
    refine lv_dmul hx hb dL_does_81 (nn_two (X_drill_nn hT)) ?_
    refine lv_d2i hx hb dL_does_82 ?_
    refine lv_goto (tgt := 287) hx hb dL_does_83 (by decide) ?_
    exact rx_i hx hb hr hlocks hI hA hQ (Or.inl ⟨_, hp2, rfl⟩) (Nat.le_of_ble_eq_true rfl) (Nat.le_of_ble_eq_true rfl) dL_does_287
set_option maxHeartbeats 4000000 in
set_option maxRecDepth 100000 in
theorem qD_open (G : GX) (hst : G.1.stackTraces = false) (Z : XZ) (S : XS) (ua ub uc : Int32) (hWZ : WZ Z) : FH G yL_does cL_does 6 (some .int) [(0, 287, 288, 74), (0, 287, 293, 77), (0, 287, 298, 80)] { frames := 8, cells := 2, slots := 12, locals := 128 } [.ref (Z.A 0 0), .int 6, .int ua, .int ub, .int uc] (xW G.2.2.2 G.2.1 Z S) (poE cvi (pvx (X_open Z S ua ub).1 (.int (X_open Z S ua ub).2.1) (xW G.2.2.2 G.2.1 Z (X_open Z S ua ub).2.2)) (px (X_open Z S ua ub).1 (xW G.2.2.2 G.2.1 Z S))) := by
  refine FH.go (lv := [(0, .ref (Z.A 0 0)), (1, .int 6), (2, .int ua), (3, .int ub), (4, .int uc)]) (by decide) (Nat.le_of_ble_eq_true rfl) rfl (fun p e s m args below meth c A H locs ls Q hx hb hr hts hown hml hlocks htab hK hE hI hA hl hQ => ?_)
  have hown : s.vm.findClass "IcehighwayLaw" = some m.cls := hown
  refine lv_iload_n hx hb dL_does_0 rfl (lv_at hl 1 rfl) ?_
  refine lv_if_ne (tgt := 15) hx hb dL_does_1 (by decide) (fun _ => ?_) (fun h => absurd h (by decide))
  refine lv_iload_n hx hb dL_does_15 rfl (lv_at hl 1 rfl) ?_
  refine lv_iconst (v := 1) hx hb dL_does_16 (by decide) ?_
  refine lv_icmp_ne (tgt := 28) hx hb dL_does_17 (by decide) (fun _ => ?_) (fun h => absurd h (by decide))
  refine lv_iload_n hx hb dL_does_28 rfl (lv_at hl 1 rfl) ?_
  refine lv_iconst (v := 2) hx hb dL_does_29 (by decide) ?_
  refine lv_icmp_ne (tgt := 41) hx hb dL_does_30 (by decide) (fun _ => ?_) (fun h => absurd h (by decide))
  refine lv_iload_n hx hb dL_does_41 rfl (lv_at hl 1 rfl) ?_
  refine lv_iconst (v := 3) hx hb dL_does_42 (by decide) ?_
  refine lv_icmp_ne (tgt := 54) hx hb dL_does_43 (by decide) (fun _ => ?_) (fun h => absurd h (by decide))
  refine lv_iload_n hx hb dL_does_54 rfl (lv_at hl 1 rfl) ?_
  refine lv_iconst (v := 4) hx hb dL_does_55 (by decide) ?_
  refine lv_icmp_ne (tgt := 68) hx hb dL_does_56 (by decide) (fun _ => ?_) (fun h => absurd h (by decide))
  refine lv_iload_n hx hb dL_does_68 rfl (lv_at hl 1 rfl) ?_
  refine lv_iconst (v := 5) hx hb dL_does_69 (by decide) ?_
  refine lv_icmp_ne (tgt := 86) hx hb dL_does_70 (by decide) (fun _ => ?_) (fun h => absurd h (by decide))
  refine lv_iload_n hx hb dL_does_86 rfl (lv_at hl 1 rfl) ?_
  refine lv_bipush (v := 6) hx hb dL_does_87 (by decide) ?_
  refine lv_icmp_ne (tgt := 101) hx hb dL_does_89 (by decide) (fun h => absurd (by decide) h) (fun _ => ?_)
  refine lv_aload_n hx hb dL_does_92 rfl (lv_at hl 0 rfl) ?_
  refine lv_iload_n hx hb dL_does_93 rfl (lv_at hl 2 rfl) ?_
  refine lv_iload_n hx hb dL_does_94 rfl (lv_at hl 3 rfl) ?_
  refine fx_xcallV (rest := []) (as := [.int ua, .int ub]) hx hb hml hts hown hK hE hI (cX_open G hst Z S ua ub hWZ) kLX_34 ⟨(Nat.le_of_ble_eq_true rfl), (Nat.le_of_ble_eq_true rfl)⟩ (kk := 0) (ii := 0) (xW0 (by decide)) rfl rfl hl.1 (Nat.le_of_ble_eq_true rfl) dL_does_95 ⟨(Nat.le_of_ble_eq_true rfl), (Nat.le_of_ble_eq_true rfl)⟩ (fun E ce q9 w' H locs hp hI g1 g2 g3 => ?_) (fun v w' H locs hp hI => ?_)
  · obtain ⟨hpT, rfl⟩ := hp
    have hE9 := tE_open hpT
    rcases hE9 with rfl | rfl
    · refine jx_catch hts hown hE htab [] (0, 287, 288, 74) [(0, 287, 293, 77), (0, 287, 298, 80)] rfl (fun z hz => by cases hz) (by decide) (by decide) q102 q378 g1 g2 g3 ?_
      refine lv_astore (lv' := [(5, .ref q9), (0, .ref (Z.A 0 0)), (1, .int 6), (2, .int ua), (3, .int ub), (4, .int uc)]) hx hb dL_does_288 hl (by decide) rfl (fun ls hl => ?_)
      refine lv_ldc (v := -30000000) hx hb hown (hts _ q652) dL_does_290 ?_
      exact rx_i hx hb hr hlocks hI hA hQ (Or.inr ⟨EIOB, ⟨hpT, rfl⟩, congrArg (fun z => some (Value.int z)) cdD_1.symm⟩) (Nat.le_of_ble_eq_true rfl) (Nat.le_of_ble_eq_true rfl) dL_does_292
    · refine jx_catch hts hown hE htab [(0, 287, 288, 74)] (0, 287, 293, 77) [(0, 287, 298, 80)] rfl (fun z hz => by
        simp only [List.mem_cons, List.not_mem_nil, or_false] at hz
        subst hz
        · exact ⟨by decide, _, q102, by decide⟩) (by decide) (by decide) q103 q114 g1 g2 g3 ?_
      refine lv_astore (lv' := [(5, .ref q9), (0, .ref (Z.A 0 0)), (1, .int 6), (2, .int ua), (3, .int ub), (4, .int uc)]) hx hb dL_does_293 hl (by decide) rfl (fun ls hl => ?_)
      refine lv_ldc (v := -20000000) hx hb hown (hts _ q653) dL_does_295 ?_
      exact rx_i hx hb hr hlocks hI hA hQ (Or.inr ⟨EIAE, ⟨hpT, rfl⟩, congrArg (fun z => some (Value.int z)) cdD_2.symm⟩) (Nat.le_of_ble_eq_true rfl) (Nat.le_of_ble_eq_true rfl) dL_does_297
  · have hp2 := hp
    obtain ⟨hT, rfl, rfl⟩ := hp
    refine lv_goto (tgt := 287) hx hb dL_does_98 (by decide) ?_
    exact rx_i hx hb hr hlocks hI hA hQ (Or.inl ⟨_, hp2, rfl⟩) (Nat.le_of_ble_eq_true rfl) (Nat.le_of_ble_eq_true rfl) dL_does_287
set_option maxHeartbeats 4000000 in
set_option maxRecDepth 100000 in
theorem qD_limit (G : GX) (hst : G.1.stackTraces = false) (Z : XZ) (S : XS) (ua ub uc : Int32) (hWZ : WZ Z) : FH G yL_does cL_does 6 (some .int) [(0, 287, 288, 74), (0, 287, 293, 77), (0, 287, 298, 80)] { frames := 8, cells := 2, slots := 12, locals := 128 } [.ref (Z.A 0 0), .int 7, .int ua, .int ub, .int uc] (xW G.2.2.2 G.2.1 Z S) (poE cvi (pvx (X_limit Z S ua ub).1 (.int (X_limit Z S ua ub).2.1) (xW G.2.2.2 G.2.1 Z (X_limit Z S ua ub).2.2)) (px (X_limit Z S ua ub).1 (xW G.2.2.2 G.2.1 Z S))) := by
  refine FH.go (lv := [(0, .ref (Z.A 0 0)), (1, .int 7), (2, .int ua), (3, .int ub), (4, .int uc)]) (by decide) (Nat.le_of_ble_eq_true rfl) rfl (fun p e s m args below meth c A H locs ls Q hx hb hr hts hown hml hlocks htab hK hE hI hA hl hQ => ?_)
  have hown : s.vm.findClass "IcehighwayLaw" = some m.cls := hown
  refine lv_iload_n hx hb dL_does_0 rfl (lv_at hl 1 rfl) ?_
  refine lv_if_ne (tgt := 15) hx hb dL_does_1 (by decide) (fun _ => ?_) (fun h => absurd h (by decide))
  refine lv_iload_n hx hb dL_does_15 rfl (lv_at hl 1 rfl) ?_
  refine lv_iconst (v := 1) hx hb dL_does_16 (by decide) ?_
  refine lv_icmp_ne (tgt := 28) hx hb dL_does_17 (by decide) (fun _ => ?_) (fun h => absurd h (by decide))
  refine lv_iload_n hx hb dL_does_28 rfl (lv_at hl 1 rfl) ?_
  refine lv_iconst (v := 2) hx hb dL_does_29 (by decide) ?_
  refine lv_icmp_ne (tgt := 41) hx hb dL_does_30 (by decide) (fun _ => ?_) (fun h => absurd h (by decide))
  refine lv_iload_n hx hb dL_does_41 rfl (lv_at hl 1 rfl) ?_
  refine lv_iconst (v := 3) hx hb dL_does_42 (by decide) ?_
  refine lv_icmp_ne (tgt := 54) hx hb dL_does_43 (by decide) (fun _ => ?_) (fun h => absurd h (by decide))
  refine lv_iload_n hx hb dL_does_54 rfl (lv_at hl 1 rfl) ?_
  refine lv_iconst (v := 4) hx hb dL_does_55 (by decide) ?_
  refine lv_icmp_ne (tgt := 68) hx hb dL_does_56 (by decide) (fun _ => ?_) (fun h => absurd h (by decide))
  refine lv_iload_n hx hb dL_does_68 rfl (lv_at hl 1 rfl) ?_
  refine lv_iconst (v := 5) hx hb dL_does_69 (by decide) ?_
  refine lv_icmp_ne (tgt := 86) hx hb dL_does_70 (by decide) (fun _ => ?_) (fun h => absurd h (by decide))
  refine lv_iload_n hx hb dL_does_86 rfl (lv_at hl 1 rfl) ?_
  refine lv_bipush (v := 6) hx hb dL_does_87 (by decide) ?_
  refine lv_icmp_ne (tgt := 101) hx hb dL_does_89 (by decide) (fun _ => ?_) (fun h => absurd h (by decide))
  refine lv_iload_n hx hb dL_does_101 rfl (lv_at hl 1 rfl) ?_
  refine lv_bipush (v := 7) hx hb dL_does_102 (by decide) ?_
  refine lv_icmp_ne (tgt := 116) hx hb dL_does_104 (by decide) (fun h => absurd (by decide) h) (fun _ => ?_)
  refine lv_aload_n hx hb dL_does_107 rfl (lv_at hl 0 rfl) ?_
  refine lv_iload_n hx hb dL_does_108 rfl (lv_at hl 2 rfl) ?_
  refine lv_iload_n hx hb dL_does_109 rfl (lv_at hl 3 rfl) ?_
  refine fx_xcallV (rest := []) (as := [.int ua, .int ub]) hx hb hml hts hown hK hE hI (cX_limit G hst Z S ua ub hWZ) kLX_37 ⟨(Nat.le_of_ble_eq_true rfl), (Nat.le_of_ble_eq_true rfl)⟩ (kk := 0) (ii := 0) (xW0 (by decide)) rfl rfl hl.1 (Nat.le_of_ble_eq_true rfl) dL_does_110 ⟨(Nat.le_of_ble_eq_true rfl), (Nat.le_of_ble_eq_true rfl)⟩ (fun E ce q9 w' H locs hp hI g1 g2 g3 => ?_) (fun v w' H locs hp hI => ?_)
  · obtain ⟨hpT, rfl⟩ := hp
    have hE9 := tE_limit hpT
    rcases hE9 with rfl | rfl
    · refine jx_catch hts hown hE htab [] (0, 287, 288, 74) [(0, 287, 293, 77), (0, 287, 298, 80)] rfl (fun z hz => by cases hz) (by decide) (by decide) q102 q378 g1 g2 g3 ?_
      refine lv_astore (lv' := [(5, .ref q9), (0, .ref (Z.A 0 0)), (1, .int 7), (2, .int ua), (3, .int ub), (4, .int uc)]) hx hb dL_does_288 hl (by decide) rfl (fun ls hl => ?_)
      refine lv_ldc (v := -30000000) hx hb hown (hts _ q652) dL_does_290 ?_
      exact rx_i hx hb hr hlocks hI hA hQ (Or.inr ⟨EIOB, ⟨hpT, rfl⟩, congrArg (fun z => some (Value.int z)) cdD_1.symm⟩) (Nat.le_of_ble_eq_true rfl) (Nat.le_of_ble_eq_true rfl) dL_does_292
    · refine jx_catch hts hown hE htab [(0, 287, 288, 74)] (0, 287, 293, 77) [(0, 287, 298, 80)] rfl (fun z hz => by
        simp only [List.mem_cons, List.not_mem_nil, or_false] at hz
        subst hz
        · exact ⟨by decide, _, q102, by decide⟩) (by decide) (by decide) q103 q114 g1 g2 g3 ?_
      refine lv_astore (lv' := [(5, .ref q9), (0, .ref (Z.A 0 0)), (1, .int 7), (2, .int ua), (3, .int ub), (4, .int uc)]) hx hb dL_does_293 hl (by decide) rfl (fun ls hl => ?_)
      refine lv_ldc (v := -20000000) hx hb hown (hts _ q653) dL_does_295 ?_
      exact rx_i hx hb hr hlocks hI hA hQ (Or.inr ⟨EIAE, ⟨hpT, rfl⟩, congrArg (fun z => some (Value.int z)) cdD_2.symm⟩) (Nat.le_of_ble_eq_true rfl) (Nat.le_of_ble_eq_true rfl) dL_does_297
  · have hp2 := hp
    obtain ⟨hT, rfl, rfl⟩ := hp
    refine lv_goto (tgt := 287) hx hb dL_does_113 (by decide) ?_
    exact rx_i hx hb hr hlocks hI hA hQ (Or.inl ⟨_, hp2, rfl⟩) (Nat.le_of_ble_eq_true rfl) (Nat.le_of_ble_eq_true rfl) dL_does_287
set_option maxHeartbeats 4000000 in
set_option maxRecDepth 100000 in
theorem qD_gap (G : GX) (hst : G.1.stackTraces = false) (Z : XZ) (S : XS) (ua ub uc : Int32) : FH G yL_does cL_does 6 (some .int) [(0, 287, 288, 74), (0, 287, 293, 77), (0, 287, 298, 80)] { frames := 8, cells := 1, slots := 6, locals := 126 } [.ref (Z.A 0 0), .int 8, .int ua, .int ub, .int uc] (xW G.2.2.2 G.2.1 Z S) (poE cvi (pvx (X_gap Z S ua).1 (.int (X_gap Z S ua).2.1) (xW G.2.2.2 G.2.1 Z (X_gap Z S ua).2.2)) (px (X_gap Z S ua).1 (xW G.2.2.2 G.2.1 Z S))) := by
  refine FH.go (lv := [(0, .ref (Z.A 0 0)), (1, .int 8), (2, .int ua), (3, .int ub), (4, .int uc)]) (by decide) (Nat.le_of_ble_eq_true rfl) rfl (fun p e s m args below meth c A H locs ls Q hx hb hr hts hown hml hlocks htab hK hE hI hA hl hQ => ?_)
  have hown : s.vm.findClass "IcehighwayLaw" = some m.cls := hown
  refine lv_iload_n hx hb dL_does_0 rfl (lv_at hl 1 rfl) ?_
  refine lv_if_ne (tgt := 15) hx hb dL_does_1 (by decide) (fun _ => ?_) (fun h => absurd h (by decide))
  refine lv_iload_n hx hb dL_does_15 rfl (lv_at hl 1 rfl) ?_
  refine lv_iconst (v := 1) hx hb dL_does_16 (by decide) ?_
  refine lv_icmp_ne (tgt := 28) hx hb dL_does_17 (by decide) (fun _ => ?_) (fun h => absurd h (by decide))
  refine lv_iload_n hx hb dL_does_28 rfl (lv_at hl 1 rfl) ?_
  refine lv_iconst (v := 2) hx hb dL_does_29 (by decide) ?_
  refine lv_icmp_ne (tgt := 41) hx hb dL_does_30 (by decide) (fun _ => ?_) (fun h => absurd h (by decide))
  refine lv_iload_n hx hb dL_does_41 rfl (lv_at hl 1 rfl) ?_
  refine lv_iconst (v := 3) hx hb dL_does_42 (by decide) ?_
  refine lv_icmp_ne (tgt := 54) hx hb dL_does_43 (by decide) (fun _ => ?_) (fun h => absurd h (by decide))
  refine lv_iload_n hx hb dL_does_54 rfl (lv_at hl 1 rfl) ?_
  refine lv_iconst (v := 4) hx hb dL_does_55 (by decide) ?_
  refine lv_icmp_ne (tgt := 68) hx hb dL_does_56 (by decide) (fun _ => ?_) (fun h => absurd h (by decide))
  refine lv_iload_n hx hb dL_does_68 rfl (lv_at hl 1 rfl) ?_
  refine lv_iconst (v := 5) hx hb dL_does_69 (by decide) ?_
  refine lv_icmp_ne (tgt := 86) hx hb dL_does_70 (by decide) (fun _ => ?_) (fun h => absurd h (by decide))
  refine lv_iload_n hx hb dL_does_86 rfl (lv_at hl 1 rfl) ?_
  refine lv_bipush (v := 6) hx hb dL_does_87 (by decide) ?_
  refine lv_icmp_ne (tgt := 101) hx hb dL_does_89 (by decide) (fun _ => ?_) (fun h => absurd h (by decide))
  refine lv_iload_n hx hb dL_does_101 rfl (lv_at hl 1 rfl) ?_
  refine lv_bipush (v := 7) hx hb dL_does_102 (by decide) ?_
  refine lv_icmp_ne (tgt := 116) hx hb dL_does_104 (by decide) (fun _ => ?_) (fun h => absurd h (by decide))
  refine lv_iload_n hx hb dL_does_116 rfl (lv_at hl 1 rfl) ?_
  refine lv_bipush (v := 8) hx hb dL_does_117 (by decide) ?_
  refine lv_icmp_ne (tgt := 130) hx hb dL_does_119 (by decide) (fun h => absurd (by decide) h) (fun _ => ?_)
  refine lv_aload_n hx hb dL_does_122 rfl (lv_at hl 0 rfl) ?_
  refine lv_iload_n hx hb dL_does_123 rfl (lv_at hl 2 rfl) ?_
  refine fx_xcallV (rest := []) (as := [.int ua]) hx hb hml hts hown hK hE hI (cX_gap G hst Z S ua) kLX_40 ⟨(Nat.le_of_ble_eq_true rfl), (Nat.le_of_ble_eq_true rfl)⟩ (kk := 0) (ii := 0) (xW0 (by decide)) rfl rfl hl.1 (Nat.le_of_ble_eq_true rfl) dL_does_124 ⟨(Nat.le_of_ble_eq_true rfl), (Nat.le_of_ble_eq_true rfl)⟩ (fun E ce q9 w' H locs hp hI g1 g2 g3 => ?_) (fun v w' H locs hp hI => ?_)
  · obtain ⟨hpT, rfl⟩ := hp
    have hE9 := tE_gap hpT
    subst hE9
    refine jx_catch hts hown hE htab [(0, 287, 288, 74)] (0, 287, 293, 77) [(0, 287, 298, 80)] rfl (fun z hz => by
        simp only [List.mem_cons, List.not_mem_nil, or_false] at hz
        subst hz
        · exact ⟨by decide, _, q102, by decide⟩) (by decide) (by decide) q103 q114 g1 g2 g3 ?_
    refine lv_astore (lv' := [(5, .ref q9), (0, .ref (Z.A 0 0)), (1, .int 8), (2, .int ua), (3, .int ub), (4, .int uc)]) hx hb dL_does_293 hl (by decide) rfl (fun ls hl => ?_)
    refine lv_ldc (v := -20000000) hx hb hown (hts _ q653) dL_does_295 ?_
    exact rx_i hx hb hr hlocks hI hA hQ (Or.inr ⟨EIAE, ⟨hpT, rfl⟩, congrArg (fun z => some (Value.int z)) cdD_2.symm⟩) (Nat.le_of_ble_eq_true rfl) (Nat.le_of_ble_eq_true rfl) dL_does_297
  · have hp2 := hp
    obtain ⟨hT, rfl, rfl⟩ := hp
    refine lv_goto (tgt := 287) hx hb dL_does_127 (by decide) ?_
    exact rx_i hx hb hr hlocks hI hA hQ (Or.inl ⟨_, hp2, rfl⟩) (Nat.le_of_ble_eq_true rfl) (Nat.le_of_ble_eq_true rfl) dL_does_287
set_option maxHeartbeats 4000000 in
set_option maxRecDepth 100000 in
theorem qD_vehicle (G : GX) (hst : G.1.stackTraces = false) (Z : XZ) (S : XS) (ua ub uc : Int32) (hWZ : WZ Z) (hC : CW Z S) : FH G yL_does cL_does 6 (some .int) [(0, 287, 288, 74), (0, 287, 293, 77), (0, 287, 298, 80)] { frames := 8, cells := 5, slots := 794, locals := 236 } [.ref (Z.A 0 0), .int 9, .int ua, .int ub, .int uc] (xW G.2.2.2 G.2.1 Z S) (poE cvi (fun v w' => (X_vehicle Z S ua ub uc) = none ∧ v = some (.int (nI (Z.N 1))) ∧ ∃ h1 h2 : Nat, w' = xW G.2.2.2 G.2.1 (zA Z 1 h1 h2) (xset (X_iVehicle (zO Z 2 h1) (xz S 2 (Z.O 2)) (Z.O 2) ua ub uc) 6 1 0 ((X_iVehicle (zO Z 2 h1) (xz S 2 (Z.O 2)) (Z.O 2) ua ub uc).1 6 1 0 + 1))) (px (X_vehicle Z S ua ub uc) (xW G.2.2.2 G.2.1 Z S))) := by
  refine FH.go (lv := [(0, .ref (Z.A 0 0)), (1, .int 9), (2, .int ua), (3, .int ub), (4, .int uc)]) (by decide) (Nat.le_of_ble_eq_true rfl) rfl (fun p e s m args below meth c A H locs ls Q hx hb hr hts hown hml hlocks htab hK hE hI hA hl hQ => ?_)
  have hown : s.vm.findClass "IcehighwayLaw" = some m.cls := hown
  refine lv_iload_n hx hb dL_does_0 rfl (lv_at hl 1 rfl) ?_
  refine lv_if_ne (tgt := 15) hx hb dL_does_1 (by decide) (fun _ => ?_) (fun h => absurd h (by decide))
  refine lv_iload_n hx hb dL_does_15 rfl (lv_at hl 1 rfl) ?_
  refine lv_iconst (v := 1) hx hb dL_does_16 (by decide) ?_
  refine lv_icmp_ne (tgt := 28) hx hb dL_does_17 (by decide) (fun _ => ?_) (fun h => absurd h (by decide))
  refine lv_iload_n hx hb dL_does_28 rfl (lv_at hl 1 rfl) ?_
  refine lv_iconst (v := 2) hx hb dL_does_29 (by decide) ?_
  refine lv_icmp_ne (tgt := 41) hx hb dL_does_30 (by decide) (fun _ => ?_) (fun h => absurd h (by decide))
  refine lv_iload_n hx hb dL_does_41 rfl (lv_at hl 1 rfl) ?_
  refine lv_iconst (v := 3) hx hb dL_does_42 (by decide) ?_
  refine lv_icmp_ne (tgt := 54) hx hb dL_does_43 (by decide) (fun _ => ?_) (fun h => absurd h (by decide))
  refine lv_iload_n hx hb dL_does_54 rfl (lv_at hl 1 rfl) ?_
  refine lv_iconst (v := 4) hx hb dL_does_55 (by decide) ?_
  refine lv_icmp_ne (tgt := 68) hx hb dL_does_56 (by decide) (fun _ => ?_) (fun h => absurd h (by decide))
  refine lv_iload_n hx hb dL_does_68 rfl (lv_at hl 1 rfl) ?_
  refine lv_iconst (v := 5) hx hb dL_does_69 (by decide) ?_
  refine lv_icmp_ne (tgt := 86) hx hb dL_does_70 (by decide) (fun _ => ?_) (fun h => absurd h (by decide))
  refine lv_iload_n hx hb dL_does_86 rfl (lv_at hl 1 rfl) ?_
  refine lv_bipush (v := 6) hx hb dL_does_87 (by decide) ?_
  refine lv_icmp_ne (tgt := 101) hx hb dL_does_89 (by decide) (fun _ => ?_) (fun h => absurd h (by decide))
  refine lv_iload_n hx hb dL_does_101 rfl (lv_at hl 1 rfl) ?_
  refine lv_bipush (v := 7) hx hb dL_does_102 (by decide) ?_
  refine lv_icmp_ne (tgt := 116) hx hb dL_does_104 (by decide) (fun _ => ?_) (fun h => absurd h (by decide))
  refine lv_iload_n hx hb dL_does_116 rfl (lv_at hl 1 rfl) ?_
  refine lv_bipush (v := 8) hx hb dL_does_117 (by decide) ?_
  refine lv_icmp_ne (tgt := 130) hx hb dL_does_119 (by decide) (fun _ => ?_) (fun h => absurd h (by decide))
  refine lv_iload_n hx hb dL_does_130 rfl (lv_at hl 1 rfl) ?_
  refine lv_bipush (v := 9) hx hb dL_does_131 (by decide) ?_
  refine lv_icmp_ne (tgt := 147) hx hb dL_does_133 (by decide) (fun h => absurd (by decide) h) (fun _ => ?_)
  refine lv_aload_n hx hb dL_does_136 rfl (lv_at hl 0 rfl) ?_
  refine lv_iload_n hx hb dL_does_137 rfl (lv_at hl 2 rfl) ?_
  refine lv_iload_n hx hb dL_does_138 rfl (lv_at hl 3 rfl) ?_
  refine lv_iload hx hb dL_does_139 (lv_at hl 4 rfl) ?_
  refine fx_xcallV (rest := []) (as := [.int ua, .int ub, .int uc]) hx hb hml hts hown hK hE hI (cX_vehicle G hst Z S ua ub uc hWZ hC) kLX_43 ⟨(Nat.le_of_ble_eq_true rfl), (Nat.le_of_ble_eq_true rfl)⟩ (kk := 0) (ii := 0) (xW0 (by decide)) rfl rfl hl.1 (Nat.le_of_ble_eq_true rfl) dL_does_141 ⟨(Nat.le_of_ble_eq_true rfl), (Nat.le_of_ble_eq_true rfl)⟩ (fun E ce q9 w' H locs hp hI g1 g2 g3 => ?_) (fun v w' H locs hp hI => ?_)
  · obtain ⟨hpT, rfl⟩ := hp
    have hE9 := tE_vehicle hpT
    rcases hE9 with rfl | rfl
    · refine jx_catch hts hown hE htab [(0, 287, 288, 74)] (0, 287, 293, 77) [(0, 287, 298, 80)] rfl (fun z hz => by
        simp only [List.mem_cons, List.not_mem_nil, or_false] at hz
        subst hz
        · exact ⟨by decide, _, q102, by decide⟩) (by decide) (by decide) q103 q114 g1 g2 g3 ?_
      refine lv_astore (lv' := [(5, .ref q9), (0, .ref (Z.A 0 0)), (1, .int 9), (2, .int ua), (3, .int ub), (4, .int uc)]) hx hb dL_does_293 hl (by decide) rfl (fun ls hl => ?_)
      refine lv_ldc (v := -20000000) hx hb hown (hts _ q653) dL_does_295 ?_
      exact rx_i hx hb hr hlocks hI hA hQ (Or.inr ⟨EIAE, ⟨hpT, rfl⟩, congrArg (fun z => some (Value.int z)) cdD_2.symm⟩) (Nat.le_of_ble_eq_true rfl) (Nat.le_of_ble_eq_true rfl) dL_does_297
    · refine jx_catch hts hown hE htab [(0, 287, 288, 74), (0, 287, 293, 77)] (0, 287, 298, 80) [] rfl (fun z hz => by
        simp only [List.mem_cons, List.not_mem_nil, or_false] at hz
        rcases hz with rfl | rfl
        · exact ⟨by decide, _, q102, by decide⟩
        · exact ⟨by decide, _, q103, by decide⟩) (by decide) (by decide) q104 q201 g1 g2 g3 ?_
      refine lv_astore (lv' := [(5, .ref q9), (0, .ref (Z.A 0 0)), (1, .int 9), (2, .int ua), (3, .int ub), (4, .int uc)]) hx hb dL_does_298 hl (by decide) rfl (fun ls hl => ?_)
      refine lv_ldc (v := -10000000) hx hb hown (hts _ q654) dL_does_300 ?_
      exact rx_i hx hb hr hlocks hI hA hQ (Or.inr ⟨EISE, ⟨hpT, rfl⟩, congrArg (fun z => some (Value.int z)) cdD_3.symm⟩) (Nat.le_of_ble_eq_true rfl) (Nat.le_of_ble_eq_true rfl) dL_does_302
  · have hp2 := hp
    obtain ⟨hT, rfl, h1, h2, rfl⟩ := hp
    refine lv_goto (tgt := 287) hx hb dL_does_144 (by decide) ?_
    exact rx_i hx hb hr hlocks hI hA hQ (Or.inl ⟨_, hp2, rfl⟩) (Nat.le_of_ble_eq_true rfl) (Nat.le_of_ble_eq_true rfl) dL_does_287
set_option maxHeartbeats 4000000 in
set_option maxRecDepth 100000 in
theorem qD_load (G : GX) (hst : G.1.stackTraces = false) (Z : XZ) (S : XS) (ua ub uc : Int32) (hWZ : WZ Z) (hC : CW Z S) : FH G yL_does cL_does 6 (some .int) [(0, 287, 288, 74), (0, 287, 293, 77), (0, 287, 298, 80)] { frames := 8, cells := 5, slots := 789, locals := 238 } [.ref (Z.A 0 0), .int 10, .int ua, .int ub, .int uc] (xW G.2.2.2 G.2.1 Z S) (poE cvi (fun v w' => (X_load Z S ua ub uc) = none ∧ ∃ h1 h2 : Nat, v = some (.int (X_weight (zA Z 2 h1 h2) (X_loadS Z S h1 ua.toNatClampNeg ub uc) ua.toNatClampNeg)) ∧ w' = xW G.2.2.2 G.2.1 (zA Z 2 h1 h2) (X_loadS Z S h1 ua.toNatClampNeg ub uc)) (px (X_load Z S ua ub uc) (xW G.2.2.2 G.2.1 Z S))) := by
  refine FH.go (lv := [(0, .ref (Z.A 0 0)), (1, .int 10), (2, .int ua), (3, .int ub), (4, .int uc)]) (by decide) (Nat.le_of_ble_eq_true rfl) rfl (fun p e s m args below meth c A H locs ls Q hx hb hr hts hown hml hlocks htab hK hE hI hA hl hQ => ?_)
  have hown : s.vm.findClass "IcehighwayLaw" = some m.cls := hown
  refine lv_iload_n hx hb dL_does_0 rfl (lv_at hl 1 rfl) ?_
  refine lv_if_ne (tgt := 15) hx hb dL_does_1 (by decide) (fun _ => ?_) (fun h => absurd h (by decide))
  refine lv_iload_n hx hb dL_does_15 rfl (lv_at hl 1 rfl) ?_
  refine lv_iconst (v := 1) hx hb dL_does_16 (by decide) ?_
  refine lv_icmp_ne (tgt := 28) hx hb dL_does_17 (by decide) (fun _ => ?_) (fun h => absurd h (by decide))
  refine lv_iload_n hx hb dL_does_28 rfl (lv_at hl 1 rfl) ?_
  refine lv_iconst (v := 2) hx hb dL_does_29 (by decide) ?_
  refine lv_icmp_ne (tgt := 41) hx hb dL_does_30 (by decide) (fun _ => ?_) (fun h => absurd h (by decide))
  refine lv_iload_n hx hb dL_does_41 rfl (lv_at hl 1 rfl) ?_
  refine lv_iconst (v := 3) hx hb dL_does_42 (by decide) ?_
  refine lv_icmp_ne (tgt := 54) hx hb dL_does_43 (by decide) (fun _ => ?_) (fun h => absurd h (by decide))
  refine lv_iload_n hx hb dL_does_54 rfl (lv_at hl 1 rfl) ?_
  refine lv_iconst (v := 4) hx hb dL_does_55 (by decide) ?_
  refine lv_icmp_ne (tgt := 68) hx hb dL_does_56 (by decide) (fun _ => ?_) (fun h => absurd h (by decide))
  refine lv_iload_n hx hb dL_does_68 rfl (lv_at hl 1 rfl) ?_
  refine lv_iconst (v := 5) hx hb dL_does_69 (by decide) ?_
  refine lv_icmp_ne (tgt := 86) hx hb dL_does_70 (by decide) (fun _ => ?_) (fun h => absurd h (by decide))
  refine lv_iload_n hx hb dL_does_86 rfl (lv_at hl 1 rfl) ?_
  refine lv_bipush (v := 6) hx hb dL_does_87 (by decide) ?_
  refine lv_icmp_ne (tgt := 101) hx hb dL_does_89 (by decide) (fun _ => ?_) (fun h => absurd h (by decide))
  refine lv_iload_n hx hb dL_does_101 rfl (lv_at hl 1 rfl) ?_
  refine lv_bipush (v := 7) hx hb dL_does_102 (by decide) ?_
  refine lv_icmp_ne (tgt := 116) hx hb dL_does_104 (by decide) (fun _ => ?_) (fun h => absurd h (by decide))
  refine lv_iload_n hx hb dL_does_116 rfl (lv_at hl 1 rfl) ?_
  refine lv_bipush (v := 8) hx hb dL_does_117 (by decide) ?_
  refine lv_icmp_ne (tgt := 130) hx hb dL_does_119 (by decide) (fun _ => ?_) (fun h => absurd h (by decide))
  refine lv_iload_n hx hb dL_does_130 rfl (lv_at hl 1 rfl) ?_
  refine lv_bipush (v := 9) hx hb dL_does_131 (by decide) ?_
  refine lv_icmp_ne (tgt := 147) hx hb dL_does_133 (by decide) (fun _ => ?_) (fun h => absurd h (by decide))
  refine lv_iload_n hx hb dL_does_147 rfl (lv_at hl 1 rfl) ?_
  refine lv_bipush (v := 10) hx hb dL_does_148 (by decide) ?_
  refine lv_icmp_ne (tgt := 164) hx hb dL_does_150 (by decide) (fun h => absurd (by decide) h) (fun _ => ?_)
  refine lv_aload_n hx hb dL_does_153 rfl (lv_at hl 0 rfl) ?_
  refine lv_iload_n hx hb dL_does_154 rfl (lv_at hl 2 rfl) ?_
  refine lv_iload_n hx hb dL_does_155 rfl (lv_at hl 3 rfl) ?_
  refine lv_iload hx hb dL_does_156 (lv_at hl 4 rfl) ?_
  refine fx_xcallV (rest := []) (as := [.int ua, .int ub, .int uc]) hx hb hml hts hown hK hE hI (cX_load G hst Z S ua ub uc hWZ hC) kLX_46 ⟨(Nat.le_of_ble_eq_true rfl), (Nat.le_of_ble_eq_true rfl)⟩ (kk := 0) (ii := 0) (xW0 (by decide)) rfl rfl hl.1 (Nat.le_of_ble_eq_true rfl) dL_does_158 ⟨(Nat.le_of_ble_eq_true rfl), (Nat.le_of_ble_eq_true rfl)⟩ (fun E ce q9 w' H locs hp hI g1 g2 g3 => ?_) (fun v w' H locs hp hI => ?_)
  · obtain ⟨hpT, rfl⟩ := hp
    have hE9 := tE_load hpT
    rcases hE9 with rfl | rfl | rfl
    · refine jx_catch hts hown hE htab [] (0, 287, 288, 74) [(0, 287, 293, 77), (0, 287, 298, 80)] rfl (fun z hz => by cases hz) (by decide) (by decide) q102 q378 g1 g2 g3 ?_
      refine lv_astore (lv' := [(5, .ref q9), (0, .ref (Z.A 0 0)), (1, .int 10), (2, .int ua), (3, .int ub), (4, .int uc)]) hx hb dL_does_288 hl (by decide) rfl (fun ls hl => ?_)
      refine lv_ldc (v := -30000000) hx hb hown (hts _ q652) dL_does_290 ?_
      exact rx_i hx hb hr hlocks hI hA hQ (Or.inr ⟨EIOB, ⟨hpT, rfl⟩, congrArg (fun z => some (Value.int z)) cdD_1.symm⟩) (Nat.le_of_ble_eq_true rfl) (Nat.le_of_ble_eq_true rfl) dL_does_292
    · refine jx_catch hts hown hE htab [(0, 287, 288, 74)] (0, 287, 293, 77) [(0, 287, 298, 80)] rfl (fun z hz => by
        simp only [List.mem_cons, List.not_mem_nil, or_false] at hz
        subst hz
        · exact ⟨by decide, _, q102, by decide⟩) (by decide) (by decide) q103 q114 g1 g2 g3 ?_
      refine lv_astore (lv' := [(5, .ref q9), (0, .ref (Z.A 0 0)), (1, .int 10), (2, .int ua), (3, .int ub), (4, .int uc)]) hx hb dL_does_293 hl (by decide) rfl (fun ls hl => ?_)
      refine lv_ldc (v := -20000000) hx hb hown (hts _ q653) dL_does_295 ?_
      exact rx_i hx hb hr hlocks hI hA hQ (Or.inr ⟨EIAE, ⟨hpT, rfl⟩, congrArg (fun z => some (Value.int z)) cdD_2.symm⟩) (Nat.le_of_ble_eq_true rfl) (Nat.le_of_ble_eq_true rfl) dL_does_297
    · refine jx_catch hts hown hE htab [(0, 287, 288, 74), (0, 287, 293, 77)] (0, 287, 298, 80) [] rfl (fun z hz => by
        simp only [List.mem_cons, List.not_mem_nil, or_false] at hz
        rcases hz with rfl | rfl
        · exact ⟨by decide, _, q102, by decide⟩
        · exact ⟨by decide, _, q103, by decide⟩) (by decide) (by decide) q104 q201 g1 g2 g3 ?_
      refine lv_astore (lv' := [(5, .ref q9), (0, .ref (Z.A 0 0)), (1, .int 10), (2, .int ua), (3, .int ub), (4, .int uc)]) hx hb dL_does_298 hl (by decide) rfl (fun ls hl => ?_)
      refine lv_ldc (v := -10000000) hx hb hown (hts _ q654) dL_does_300 ?_
      exact rx_i hx hb hr hlocks hI hA hQ (Or.inr ⟨EISE, ⟨hpT, rfl⟩, congrArg (fun z => some (Value.int z)) cdD_3.symm⟩) (Nat.le_of_ble_eq_true rfl) (Nat.le_of_ble_eq_true rfl) dL_does_302
  · have hp2 := hp
    obtain ⟨hT, h1, h2, rfl, rfl⟩ := hp
    refine lv_goto (tgt := 287) hx hb dL_does_161 (by decide) ?_
    exact rx_i hx hb hr hlocks hI hA hQ (Or.inl ⟨_, hp2, rfl⟩) (Nat.le_of_ble_eq_true rfl) (Nat.le_of_ble_eq_true rfl) dL_does_287
set_option maxHeartbeats 4000000 in
set_option maxRecDepth 100000 in
theorem qD_go (G : GX) (hst : G.1.stackTraces = false) (Z : XZ) (S : XS) (ua ub uc : Int32) (hWZ : WZ Z) : FH G yL_does cL_does 6 (some .int) [(0, 287, 288, 74), (0, 287, 293, 77), (0, 287, 298, 80)] { frames := 8, cells := 2, slots := 12, locals := 125 } [.ref (Z.A 0 0), .int 11, .int ua, .int ub, .int uc] (xW G.2.2.2 G.2.1 Z S) (poE cvb (pvx (X_go Z S ua).1 (.int (X_go Z S ua).2.1) (xW G.2.2.2 G.2.1 Z (X_go Z S ua).2.2)) (px (X_go Z S ua).1 (xW G.2.2.2 G.2.1 Z S))) := by
  refine FH.go (lv := [(0, .ref (Z.A 0 0)), (1, .int 11), (2, .int ua), (3, .int ub), (4, .int uc)]) (by decide) (Nat.le_of_ble_eq_true rfl) rfl (fun p e s m args below meth c A H locs ls Q hx hb hr hts hown hml hlocks htab hK hE hI hA hl hQ => ?_)
  have hown : s.vm.findClass "IcehighwayLaw" = some m.cls := hown
  refine lv_iload_n hx hb dL_does_0 rfl (lv_at hl 1 rfl) ?_
  refine lv_if_ne (tgt := 15) hx hb dL_does_1 (by decide) (fun _ => ?_) (fun h => absurd h (by decide))
  refine lv_iload_n hx hb dL_does_15 rfl (lv_at hl 1 rfl) ?_
  refine lv_iconst (v := 1) hx hb dL_does_16 (by decide) ?_
  refine lv_icmp_ne (tgt := 28) hx hb dL_does_17 (by decide) (fun _ => ?_) (fun h => absurd h (by decide))
  refine lv_iload_n hx hb dL_does_28 rfl (lv_at hl 1 rfl) ?_
  refine lv_iconst (v := 2) hx hb dL_does_29 (by decide) ?_
  refine lv_icmp_ne (tgt := 41) hx hb dL_does_30 (by decide) (fun _ => ?_) (fun h => absurd h (by decide))
  refine lv_iload_n hx hb dL_does_41 rfl (lv_at hl 1 rfl) ?_
  refine lv_iconst (v := 3) hx hb dL_does_42 (by decide) ?_
  refine lv_icmp_ne (tgt := 54) hx hb dL_does_43 (by decide) (fun _ => ?_) (fun h => absurd h (by decide))
  refine lv_iload_n hx hb dL_does_54 rfl (lv_at hl 1 rfl) ?_
  refine lv_iconst (v := 4) hx hb dL_does_55 (by decide) ?_
  refine lv_icmp_ne (tgt := 68) hx hb dL_does_56 (by decide) (fun _ => ?_) (fun h => absurd h (by decide))
  refine lv_iload_n hx hb dL_does_68 rfl (lv_at hl 1 rfl) ?_
  refine lv_iconst (v := 5) hx hb dL_does_69 (by decide) ?_
  refine lv_icmp_ne (tgt := 86) hx hb dL_does_70 (by decide) (fun _ => ?_) (fun h => absurd h (by decide))
  refine lv_iload_n hx hb dL_does_86 rfl (lv_at hl 1 rfl) ?_
  refine lv_bipush (v := 6) hx hb dL_does_87 (by decide) ?_
  refine lv_icmp_ne (tgt := 101) hx hb dL_does_89 (by decide) (fun _ => ?_) (fun h => absurd h (by decide))
  refine lv_iload_n hx hb dL_does_101 rfl (lv_at hl 1 rfl) ?_
  refine lv_bipush (v := 7) hx hb dL_does_102 (by decide) ?_
  refine lv_icmp_ne (tgt := 116) hx hb dL_does_104 (by decide) (fun _ => ?_) (fun h => absurd h (by decide))
  refine lv_iload_n hx hb dL_does_116 rfl (lv_at hl 1 rfl) ?_
  refine lv_bipush (v := 8) hx hb dL_does_117 (by decide) ?_
  refine lv_icmp_ne (tgt := 130) hx hb dL_does_119 (by decide) (fun _ => ?_) (fun h => absurd h (by decide))
  refine lv_iload_n hx hb dL_does_130 rfl (lv_at hl 1 rfl) ?_
  refine lv_bipush (v := 9) hx hb dL_does_131 (by decide) ?_
  refine lv_icmp_ne (tgt := 147) hx hb dL_does_133 (by decide) (fun _ => ?_) (fun h => absurd h (by decide))
  refine lv_iload_n hx hb dL_does_147 rfl (lv_at hl 1 rfl) ?_
  refine lv_bipush (v := 10) hx hb dL_does_148 (by decide) ?_
  refine lv_icmp_ne (tgt := 164) hx hb dL_does_150 (by decide) (fun _ => ?_) (fun h => absurd h (by decide))
  refine lv_iload_n hx hb dL_does_164 rfl (lv_at hl 1 rfl) ?_
  refine lv_bipush (v := 11) hx hb dL_does_165 (by decide) ?_
  refine lv_icmp_ne (tgt := 186) hx hb dL_does_167 (by decide) (fun h => absurd (by decide) h) (fun _ => ?_)
  refine lv_aload_n hx hb dL_does_170 rfl (lv_at hl 0 rfl) ?_
  refine lv_iload_n hx hb dL_does_171 rfl (lv_at hl 2 rfl) ?_
  refine fx_xcallV (rest := []) (as := [.int ua]) hx hb hml hts hown hK hE hI (cX_go G hst Z S ua hWZ) kLX_49 ⟨(Nat.le_of_ble_eq_true rfl), (Nat.le_of_ble_eq_true rfl)⟩ (kk := 0) (ii := 0) (xW0 (by decide)) rfl rfl hl.1 (Nat.le_of_ble_eq_true rfl) dL_does_172 ⟨(Nat.le_of_ble_eq_true rfl), (Nat.le_of_ble_eq_true rfl)⟩ (fun E ce q9 w' H locs hp hI g1 g2 g3 => ?_) (fun v w' H locs hp hI => ?_)
  · obtain ⟨hpT, rfl⟩ := hp
    have hE9 := tE_go hpT
    rcases hE9 with rfl | rfl
    · refine jx_catch hts hown hE htab [] (0, 287, 288, 74) [(0, 287, 293, 77), (0, 287, 298, 80)] rfl (fun z hz => by cases hz) (by decide) (by decide) q102 q378 g1 g2 g3 ?_
      refine lv_astore (lv' := [(5, .ref q9), (0, .ref (Z.A 0 0)), (1, .int 11), (2, .int ua), (3, .int ub), (4, .int uc)]) hx hb dL_does_288 hl (by decide) rfl (fun ls hl => ?_)
      refine lv_ldc (v := -30000000) hx hb hown (hts _ q652) dL_does_290 ?_
      exact rx_i hx hb hr hlocks hI hA hQ (Or.inr ⟨EIOB, ⟨hpT, rfl⟩, congrArg (fun z => some (Value.int z)) cdD_1.symm⟩) (Nat.le_of_ble_eq_true rfl) (Nat.le_of_ble_eq_true rfl) dL_does_292
    · refine jx_catch hts hown hE htab [(0, 287, 288, 74), (0, 287, 293, 77)] (0, 287, 298, 80) [] rfl (fun z hz => by
        simp only [List.mem_cons, List.not_mem_nil, or_false] at hz
        rcases hz with rfl | rfl
        · exact ⟨by decide, _, q102, by decide⟩
        · exact ⟨by decide, _, q103, by decide⟩) (by decide) (by decide) q104 q201 g1 g2 g3 ?_
      refine lv_astore (lv' := [(5, .ref q9), (0, .ref (Z.A 0 0)), (1, .int 11), (2, .int ua), (3, .int ub), (4, .int uc)]) hx hb dL_does_298 hl (by decide) rfl (fun ls hl => ?_)
      refine lv_ldc (v := -10000000) hx hb hown (hts _ q654) dL_does_300 ?_
      exact rx_i hx hb hr hlocks hI hA hQ (Or.inr ⟨EISE, ⟨hpT, rfl⟩, congrArg (fun z => some (Value.int z)) cdD_3.symm⟩) (Nat.le_of_ble_eq_true rfl) (Nat.le_of_ble_eq_true rfl) dL_does_302
  · have hp2 := hp
    obtain ⟨hT, rfl, rfl⟩ := hp
    refine lv_if_eq (tgt := 182) hx hb dL_does_175 (by decide) (fun hz => ?_) (fun hz => ?_)
    · refine lv_iconst (v := 0) hx hb dL_does_182 (by decide) ?_
      refine lv_goto (tgt := 287) hx hb dL_does_183 (by decide) ?_
      exact rx_i hx hb hr hlocks hI hA hQ (Or.inl ⟨_, hp2, by rw [cvb_0 hz]⟩) (Nat.le_of_ble_eq_true rfl) (Nat.le_of_ble_eq_true rfl) dL_does_287
    · refine lv_iconst (v := 1) hx hb dL_does_178 (by decide) ?_
      refine lv_goto (tgt := 287) hx hb dL_does_179 (by decide) ?_
      exact rx_i hx hb hr hlocks hI hA hQ (Or.inl ⟨_, hp2, by rw [cvb_1 hz]⟩) (Nat.le_of_ble_eq_true rfl) (Nat.le_of_ble_eq_true rfl) dL_does_287
set_option maxHeartbeats 4000000 in
set_option maxRecDepth 100000 in
theorem qD_turn (G : GX) (hst : G.1.stackTraces = false) (Z : XZ) (S : XS) (ua ub uc : Int32) (hWZ : WZ Z) (hC : CW Z S) : FH G yL_does cL_does 6 (some .int) [(0, 287, 288, 74), (0, 287, 293, 77), (0, 287, 298, 80)] { frames := 8, cells := 2, slots := 12, locals := 125 } [.ref (Z.A 0 0), .int 12, .int ua, .int ub, .int uc] (xW G.2.2.2 G.2.1 Z S) (poE cvb (pvx (X_turn Z S ua).1 (.int (X_turn Z S ua).2.1) (xW G.2.2.2 G.2.1 Z (X_turn Z S ua).2.2)) (px (X_turn Z S ua).1 (xW G.2.2.2 G.2.1 Z S))) := by
  refine FH.go (lv := [(0, .ref (Z.A 0 0)), (1, .int 12), (2, .int ua), (3, .int ub), (4, .int uc)]) (by decide) (Nat.le_of_ble_eq_true rfl) rfl (fun p e s m args below meth c A H locs ls Q hx hb hr hts hown hml hlocks htab hK hE hI hA hl hQ => ?_)
  have hown : s.vm.findClass "IcehighwayLaw" = some m.cls := hown
  refine lv_iload_n hx hb dL_does_0 rfl (lv_at hl 1 rfl) ?_
  refine lv_if_ne (tgt := 15) hx hb dL_does_1 (by decide) (fun _ => ?_) (fun h => absurd h (by decide))
  refine lv_iload_n hx hb dL_does_15 rfl (lv_at hl 1 rfl) ?_
  refine lv_iconst (v := 1) hx hb dL_does_16 (by decide) ?_
  refine lv_icmp_ne (tgt := 28) hx hb dL_does_17 (by decide) (fun _ => ?_) (fun h => absurd h (by decide))
  refine lv_iload_n hx hb dL_does_28 rfl (lv_at hl 1 rfl) ?_
  refine lv_iconst (v := 2) hx hb dL_does_29 (by decide) ?_
  refine lv_icmp_ne (tgt := 41) hx hb dL_does_30 (by decide) (fun _ => ?_) (fun h => absurd h (by decide))
  refine lv_iload_n hx hb dL_does_41 rfl (lv_at hl 1 rfl) ?_
  refine lv_iconst (v := 3) hx hb dL_does_42 (by decide) ?_
  refine lv_icmp_ne (tgt := 54) hx hb dL_does_43 (by decide) (fun _ => ?_) (fun h => absurd h (by decide))
  refine lv_iload_n hx hb dL_does_54 rfl (lv_at hl 1 rfl) ?_
  refine lv_iconst (v := 4) hx hb dL_does_55 (by decide) ?_
  refine lv_icmp_ne (tgt := 68) hx hb dL_does_56 (by decide) (fun _ => ?_) (fun h => absurd h (by decide))
  refine lv_iload_n hx hb dL_does_68 rfl (lv_at hl 1 rfl) ?_
  refine lv_iconst (v := 5) hx hb dL_does_69 (by decide) ?_
  refine lv_icmp_ne (tgt := 86) hx hb dL_does_70 (by decide) (fun _ => ?_) (fun h => absurd h (by decide))
  refine lv_iload_n hx hb dL_does_86 rfl (lv_at hl 1 rfl) ?_
  refine lv_bipush (v := 6) hx hb dL_does_87 (by decide) ?_
  refine lv_icmp_ne (tgt := 101) hx hb dL_does_89 (by decide) (fun _ => ?_) (fun h => absurd h (by decide))
  refine lv_iload_n hx hb dL_does_101 rfl (lv_at hl 1 rfl) ?_
  refine lv_bipush (v := 7) hx hb dL_does_102 (by decide) ?_
  refine lv_icmp_ne (tgt := 116) hx hb dL_does_104 (by decide) (fun _ => ?_) (fun h => absurd h (by decide))
  refine lv_iload_n hx hb dL_does_116 rfl (lv_at hl 1 rfl) ?_
  refine lv_bipush (v := 8) hx hb dL_does_117 (by decide) ?_
  refine lv_icmp_ne (tgt := 130) hx hb dL_does_119 (by decide) (fun _ => ?_) (fun h => absurd h (by decide))
  refine lv_iload_n hx hb dL_does_130 rfl (lv_at hl 1 rfl) ?_
  refine lv_bipush (v := 9) hx hb dL_does_131 (by decide) ?_
  refine lv_icmp_ne (tgt := 147) hx hb dL_does_133 (by decide) (fun _ => ?_) (fun h => absurd h (by decide))
  refine lv_iload_n hx hb dL_does_147 rfl (lv_at hl 1 rfl) ?_
  refine lv_bipush (v := 10) hx hb dL_does_148 (by decide) ?_
  refine lv_icmp_ne (tgt := 164) hx hb dL_does_150 (by decide) (fun _ => ?_) (fun h => absurd h (by decide))
  refine lv_iload_n hx hb dL_does_164 rfl (lv_at hl 1 rfl) ?_
  refine lv_bipush (v := 11) hx hb dL_does_165 (by decide) ?_
  refine lv_icmp_ne (tgt := 186) hx hb dL_does_167 (by decide) (fun _ => ?_) (fun h => absurd h (by decide))
  refine lv_iload_n hx hb dL_does_186 rfl (lv_at hl 1 rfl) ?_
  refine lv_bipush (v := 12) hx hb dL_does_187 (by decide) ?_
  refine lv_icmp_ne (tgt := 208) hx hb dL_does_189 (by decide) (fun h => absurd (by decide) h) (fun _ => ?_)
  refine lv_aload_n hx hb dL_does_192 rfl (lv_at hl 0 rfl) ?_
  refine lv_iload_n hx hb dL_does_193 rfl (lv_at hl 2 rfl) ?_
  refine fx_xcallV (rest := []) (as := [.int ua]) hx hb hml hts hown hK hE hI (cX_turn G hst Z S ua hWZ hC) kLX_53 ⟨(Nat.le_of_ble_eq_true rfl), (Nat.le_of_ble_eq_true rfl)⟩ (kk := 0) (ii := 0) (xW0 (by decide)) rfl rfl hl.1 (Nat.le_of_ble_eq_true rfl) dL_does_194 ⟨(Nat.le_of_ble_eq_true rfl), (Nat.le_of_ble_eq_true rfl)⟩ (fun E ce q9 w' H locs hp hI g1 g2 g3 => ?_) (fun v w' H locs hp hI => ?_)
  · obtain ⟨hpT, rfl⟩ := hp
    have hE9 := tE_turn hpT
    rcases hE9 with rfl | rfl
    · refine jx_catch hts hown hE htab [] (0, 287, 288, 74) [(0, 287, 293, 77), (0, 287, 298, 80)] rfl (fun z hz => by cases hz) (by decide) (by decide) q102 q378 g1 g2 g3 ?_
      refine lv_astore (lv' := [(5, .ref q9), (0, .ref (Z.A 0 0)), (1, .int 12), (2, .int ua), (3, .int ub), (4, .int uc)]) hx hb dL_does_288 hl (by decide) rfl (fun ls hl => ?_)
      refine lv_ldc (v := -30000000) hx hb hown (hts _ q652) dL_does_290 ?_
      exact rx_i hx hb hr hlocks hI hA hQ (Or.inr ⟨EIOB, ⟨hpT, rfl⟩, congrArg (fun z => some (Value.int z)) cdD_1.symm⟩) (Nat.le_of_ble_eq_true rfl) (Nat.le_of_ble_eq_true rfl) dL_does_292
    · refine jx_catch hts hown hE htab [(0, 287, 288, 74), (0, 287, 293, 77)] (0, 287, 298, 80) [] rfl (fun z hz => by
        simp only [List.mem_cons, List.not_mem_nil, or_false] at hz
        rcases hz with rfl | rfl
        · exact ⟨by decide, _, q102, by decide⟩
        · exact ⟨by decide, _, q103, by decide⟩) (by decide) (by decide) q104 q201 g1 g2 g3 ?_
      refine lv_astore (lv' := [(5, .ref q9), (0, .ref (Z.A 0 0)), (1, .int 12), (2, .int ua), (3, .int ub), (4, .int uc)]) hx hb dL_does_298 hl (by decide) rfl (fun ls hl => ?_)
      refine lv_ldc (v := -10000000) hx hb hown (hts _ q654) dL_does_300 ?_
      exact rx_i hx hb hr hlocks hI hA hQ (Or.inr ⟨EISE, ⟨hpT, rfl⟩, congrArg (fun z => some (Value.int z)) cdD_3.symm⟩) (Nat.le_of_ble_eq_true rfl) (Nat.le_of_ble_eq_true rfl) dL_does_302
  · have hp2 := hp
    obtain ⟨hT, rfl, rfl⟩ := hp
    refine lv_if_eq (tgt := 204) hx hb dL_does_197 (by decide) (fun hz => ?_) (fun hz => ?_)
    · refine lv_iconst (v := 0) hx hb dL_does_204 (by decide) ?_
      refine lv_goto (tgt := 287) hx hb dL_does_205 (by decide) ?_
      exact rx_i hx hb hr hlocks hI hA hQ (Or.inl ⟨_, hp2, by rw [cvb_0 hz]⟩) (Nat.le_of_ble_eq_true rfl) (Nat.le_of_ble_eq_true rfl) dL_does_287
    · refine lv_iconst (v := 1) hx hb dL_does_200 (by decide) ?_
      refine lv_goto (tgt := 287) hx hb dL_does_201 (by decide) ?_
      exact rx_i hx hb hr hlocks hI hA hQ (Or.inl ⟨_, hp2, by rw [cvb_1 hz]⟩) (Nat.le_of_ble_eq_true rfl) (Nat.le_of_ble_eq_true rfl) dL_does_287
set_option maxHeartbeats 4000000 in
set_option maxRecDepth 100000 in
theorem qD_order (G : GX) (hst : G.1.stackTraces = false) (Z : XZ) (S : XS) (ua ub uc : Int32) : FH G yL_does cL_does 6 (some .int) [(0, 287, 288, 74), (0, 287, 293, 77), (0, 287, 298, 80)] { frames := 8, cells := 3, slots := 18, locals := 126 } [.ref (Z.A 0 0), .int 13, .int ua, .int ub, .int uc] (xW G.2.2.2 G.2.1 Z S) (poE cvi (pvx (X_order Z S ua ub).1 (.int (X_order Z S ua ub).2.1) (xW G.2.2.2 G.2.1 Z (X_order Z S ua ub).2.2)) (px (X_order Z S ua ub).1 (xW G.2.2.2 G.2.1 Z S))) := by
  refine FH.go (lv := [(0, .ref (Z.A 0 0)), (1, .int 13), (2, .int ua), (3, .int ub), (4, .int uc)]) (by decide) (Nat.le_of_ble_eq_true rfl) rfl (fun p e s m args below meth c A H locs ls Q hx hb hr hts hown hml hlocks htab hK hE hI hA hl hQ => ?_)
  have hown : s.vm.findClass "IcehighwayLaw" = some m.cls := hown
  refine lv_iload_n hx hb dL_does_0 rfl (lv_at hl 1 rfl) ?_
  refine lv_if_ne (tgt := 15) hx hb dL_does_1 (by decide) (fun _ => ?_) (fun h => absurd h (by decide))
  refine lv_iload_n hx hb dL_does_15 rfl (lv_at hl 1 rfl) ?_
  refine lv_iconst (v := 1) hx hb dL_does_16 (by decide) ?_
  refine lv_icmp_ne (tgt := 28) hx hb dL_does_17 (by decide) (fun _ => ?_) (fun h => absurd h (by decide))
  refine lv_iload_n hx hb dL_does_28 rfl (lv_at hl 1 rfl) ?_
  refine lv_iconst (v := 2) hx hb dL_does_29 (by decide) ?_
  refine lv_icmp_ne (tgt := 41) hx hb dL_does_30 (by decide) (fun _ => ?_) (fun h => absurd h (by decide))
  refine lv_iload_n hx hb dL_does_41 rfl (lv_at hl 1 rfl) ?_
  refine lv_iconst (v := 3) hx hb dL_does_42 (by decide) ?_
  refine lv_icmp_ne (tgt := 54) hx hb dL_does_43 (by decide) (fun _ => ?_) (fun h => absurd h (by decide))
  refine lv_iload_n hx hb dL_does_54 rfl (lv_at hl 1 rfl) ?_
  refine lv_iconst (v := 4) hx hb dL_does_55 (by decide) ?_
  refine lv_icmp_ne (tgt := 68) hx hb dL_does_56 (by decide) (fun _ => ?_) (fun h => absurd h (by decide))
  refine lv_iload_n hx hb dL_does_68 rfl (lv_at hl 1 rfl) ?_
  refine lv_iconst (v := 5) hx hb dL_does_69 (by decide) ?_
  refine lv_icmp_ne (tgt := 86) hx hb dL_does_70 (by decide) (fun _ => ?_) (fun h => absurd h (by decide))
  refine lv_iload_n hx hb dL_does_86 rfl (lv_at hl 1 rfl) ?_
  refine lv_bipush (v := 6) hx hb dL_does_87 (by decide) ?_
  refine lv_icmp_ne (tgt := 101) hx hb dL_does_89 (by decide) (fun _ => ?_) (fun h => absurd h (by decide))
  refine lv_iload_n hx hb dL_does_101 rfl (lv_at hl 1 rfl) ?_
  refine lv_bipush (v := 7) hx hb dL_does_102 (by decide) ?_
  refine lv_icmp_ne (tgt := 116) hx hb dL_does_104 (by decide) (fun _ => ?_) (fun h => absurd h (by decide))
  refine lv_iload_n hx hb dL_does_116 rfl (lv_at hl 1 rfl) ?_
  refine lv_bipush (v := 8) hx hb dL_does_117 (by decide) ?_
  refine lv_icmp_ne (tgt := 130) hx hb dL_does_119 (by decide) (fun _ => ?_) (fun h => absurd h (by decide))
  refine lv_iload_n hx hb dL_does_130 rfl (lv_at hl 1 rfl) ?_
  refine lv_bipush (v := 9) hx hb dL_does_131 (by decide) ?_
  refine lv_icmp_ne (tgt := 147) hx hb dL_does_133 (by decide) (fun _ => ?_) (fun h => absurd h (by decide))
  refine lv_iload_n hx hb dL_does_147 rfl (lv_at hl 1 rfl) ?_
  refine lv_bipush (v := 10) hx hb dL_does_148 (by decide) ?_
  refine lv_icmp_ne (tgt := 164) hx hb dL_does_150 (by decide) (fun _ => ?_) (fun h => absurd h (by decide))
  refine lv_iload_n hx hb dL_does_164 rfl (lv_at hl 1 rfl) ?_
  refine lv_bipush (v := 11) hx hb dL_does_165 (by decide) ?_
  refine lv_icmp_ne (tgt := 186) hx hb dL_does_167 (by decide) (fun _ => ?_) (fun h => absurd h (by decide))
  refine lv_iload_n hx hb dL_does_186 rfl (lv_at hl 1 rfl) ?_
  refine lv_bipush (v := 12) hx hb dL_does_187 (by decide) ?_
  refine lv_icmp_ne (tgt := 208) hx hb dL_does_189 (by decide) (fun _ => ?_) (fun h => absurd h (by decide))
  refine lv_iload_n hx hb dL_does_208 rfl (lv_at hl 1 rfl) ?_
  refine lv_bipush (v := 13) hx hb dL_does_209 (by decide) ?_
  refine lv_icmp_ne (tgt := 223) hx hb dL_does_211 (by decide) (fun h => absurd (by decide) h) (fun _ => ?_)
  refine lv_aload_n hx hb dL_does_214 rfl (lv_at hl 0 rfl) ?_
  refine lv_iload_n hx hb dL_does_215 rfl (lv_at hl 2 rfl) ?_
  refine lv_iload_n hx hb dL_does_216 rfl (lv_at hl 3 rfl) ?_
  refine fx_xcallV (rest := []) (as := [.int ua, .int ub]) hx hb hml hts hown hK hE hI (cX_order G hst Z S ua ub) kLX_56 ⟨(Nat.le_of_ble_eq_true rfl), (Nat.le_of_ble_eq_true rfl)⟩ (kk := 0) (ii := 0) (xW0 (by decide)) rfl rfl hl.1 (Nat.le_of_ble_eq_true rfl) dL_does_217 ⟨(Nat.le_of_ble_eq_true rfl), (Nat.le_of_ble_eq_true rfl)⟩ (fun E ce q9 w' H locs hp hI g1 g2 g3 => ?_) (fun v w' H locs hp hI => ?_)
  · obtain ⟨hpT, rfl⟩ := hp
    have hE9 := tE_order hpT
    rcases hE9 with rfl | rfl | rfl
    · refine jx_catch hts hown hE htab [] (0, 287, 288, 74) [(0, 287, 293, 77), (0, 287, 298, 80)] rfl (fun z hz => by cases hz) (by decide) (by decide) q102 q378 g1 g2 g3 ?_
      refine lv_astore (lv' := [(5, .ref q9), (0, .ref (Z.A 0 0)), (1, .int 13), (2, .int ua), (3, .int ub), (4, .int uc)]) hx hb dL_does_288 hl (by decide) rfl (fun ls hl => ?_)
      refine lv_ldc (v := -30000000) hx hb hown (hts _ q652) dL_does_290 ?_
      exact rx_i hx hb hr hlocks hI hA hQ (Or.inr ⟨EIOB, ⟨hpT, rfl⟩, congrArg (fun z => some (Value.int z)) cdD_1.symm⟩) (Nat.le_of_ble_eq_true rfl) (Nat.le_of_ble_eq_true rfl) dL_does_292
    · refine jx_catch hts hown hE htab [(0, 287, 288, 74)] (0, 287, 293, 77) [(0, 287, 298, 80)] rfl (fun z hz => by
        simp only [List.mem_cons, List.not_mem_nil, or_false] at hz
        subst hz
        · exact ⟨by decide, _, q102, by decide⟩) (by decide) (by decide) q103 q114 g1 g2 g3 ?_
      refine lv_astore (lv' := [(5, .ref q9), (0, .ref (Z.A 0 0)), (1, .int 13), (2, .int ua), (3, .int ub), (4, .int uc)]) hx hb dL_does_293 hl (by decide) rfl (fun ls hl => ?_)
      refine lv_ldc (v := -20000000) hx hb hown (hts _ q653) dL_does_295 ?_
      exact rx_i hx hb hr hlocks hI hA hQ (Or.inr ⟨EIAE, ⟨hpT, rfl⟩, congrArg (fun z => some (Value.int z)) cdD_2.symm⟩) (Nat.le_of_ble_eq_true rfl) (Nat.le_of_ble_eq_true rfl) dL_does_297
    · refine jx_catch hts hown hE htab [(0, 287, 288, 74), (0, 287, 293, 77)] (0, 287, 298, 80) [] rfl (fun z hz => by
        simp only [List.mem_cons, List.not_mem_nil, or_false] at hz
        rcases hz with rfl | rfl
        · exact ⟨by decide, _, q102, by decide⟩
        · exact ⟨by decide, _, q103, by decide⟩) (by decide) (by decide) q104 q201 g1 g2 g3 ?_
      refine lv_astore (lv' := [(5, .ref q9), (0, .ref (Z.A 0 0)), (1, .int 13), (2, .int ua), (3, .int ub), (4, .int uc)]) hx hb dL_does_298 hl (by decide) rfl (fun ls hl => ?_)
      refine lv_ldc (v := -10000000) hx hb hown (hts _ q654) dL_does_300 ?_
      exact rx_i hx hb hr hlocks hI hA hQ (Or.inr ⟨EISE, ⟨hpT, rfl⟩, congrArg (fun z => some (Value.int z)) cdD_3.symm⟩) (Nat.le_of_ble_eq_true rfl) (Nat.le_of_ble_eq_true rfl) dL_does_302
  · have hp2 := hp
    obtain ⟨hT, rfl, rfl⟩ := hp
    refine lv_goto (tgt := 287) hx hb dL_does_220 (by decide) ?_
    exact rx_i hx hb hr hlocks hI hA hQ (Or.inl ⟨_, hp2, rfl⟩) (Nat.le_of_ble_eq_true rfl) (Nat.le_of_ble_eq_true rfl) dL_does_287
set_option maxHeartbeats 4000000 in
set_option maxRecDepth 100000 in
theorem qD_pass (G : GX) (hst : G.1.stackTraces = false) (Z : XZ) (S : XS) (ua ub uc : Int32) (hWZ : WZ Z) (hC : CW Z S) : FH G yL_does cL_does 6 (some .int) [(0, 287, 288, 74), (0, 287, 293, 77), (0, 287, 298, 80)] { frames := 8, cells := 2, slots := 12, locals := 174 } [.ref (Z.A 0 0), .int 14, .int ua, .int ub, .int uc] (xW G.2.2.2 G.2.1 Z S) (poE cvi (pvx (X_pass Z S ua).1 (.int (X_pass Z S ua).2.1) (xW G.2.2.2 G.2.1 Z (X_pass Z S ua).2.2)) (px (X_pass Z S ua).1 (xW G.2.2.2 G.2.1 Z S))) := by
  refine FH.go (lv := [(0, .ref (Z.A 0 0)), (1, .int 14), (2, .int ua), (3, .int ub), (4, .int uc)]) (by decide) (Nat.le_of_ble_eq_true rfl) rfl (fun p e s m args below meth c A H locs ls Q hx hb hr hts hown hml hlocks htab hK hE hI hA hl hQ => ?_)
  have hown : s.vm.findClass "IcehighwayLaw" = some m.cls := hown
  refine lv_iload_n hx hb dL_does_0 rfl (lv_at hl 1 rfl) ?_
  refine lv_if_ne (tgt := 15) hx hb dL_does_1 (by decide) (fun _ => ?_) (fun h => absurd h (by decide))
  refine lv_iload_n hx hb dL_does_15 rfl (lv_at hl 1 rfl) ?_
  refine lv_iconst (v := 1) hx hb dL_does_16 (by decide) ?_
  refine lv_icmp_ne (tgt := 28) hx hb dL_does_17 (by decide) (fun _ => ?_) (fun h => absurd h (by decide))
  refine lv_iload_n hx hb dL_does_28 rfl (lv_at hl 1 rfl) ?_
  refine lv_iconst (v := 2) hx hb dL_does_29 (by decide) ?_
  refine lv_icmp_ne (tgt := 41) hx hb dL_does_30 (by decide) (fun _ => ?_) (fun h => absurd h (by decide))
  refine lv_iload_n hx hb dL_does_41 rfl (lv_at hl 1 rfl) ?_
  refine lv_iconst (v := 3) hx hb dL_does_42 (by decide) ?_
  refine lv_icmp_ne (tgt := 54) hx hb dL_does_43 (by decide) (fun _ => ?_) (fun h => absurd h (by decide))
  refine lv_iload_n hx hb dL_does_54 rfl (lv_at hl 1 rfl) ?_
  refine lv_iconst (v := 4) hx hb dL_does_55 (by decide) ?_
  refine lv_icmp_ne (tgt := 68) hx hb dL_does_56 (by decide) (fun _ => ?_) (fun h => absurd h (by decide))
  refine lv_iload_n hx hb dL_does_68 rfl (lv_at hl 1 rfl) ?_
  refine lv_iconst (v := 5) hx hb dL_does_69 (by decide) ?_
  refine lv_icmp_ne (tgt := 86) hx hb dL_does_70 (by decide) (fun _ => ?_) (fun h => absurd h (by decide))
  refine lv_iload_n hx hb dL_does_86 rfl (lv_at hl 1 rfl) ?_
  refine lv_bipush (v := 6) hx hb dL_does_87 (by decide) ?_
  refine lv_icmp_ne (tgt := 101) hx hb dL_does_89 (by decide) (fun _ => ?_) (fun h => absurd h (by decide))
  refine lv_iload_n hx hb dL_does_101 rfl (lv_at hl 1 rfl) ?_
  refine lv_bipush (v := 7) hx hb dL_does_102 (by decide) ?_
  refine lv_icmp_ne (tgt := 116) hx hb dL_does_104 (by decide) (fun _ => ?_) (fun h => absurd h (by decide))
  refine lv_iload_n hx hb dL_does_116 rfl (lv_at hl 1 rfl) ?_
  refine lv_bipush (v := 8) hx hb dL_does_117 (by decide) ?_
  refine lv_icmp_ne (tgt := 130) hx hb dL_does_119 (by decide) (fun _ => ?_) (fun h => absurd h (by decide))
  refine lv_iload_n hx hb dL_does_130 rfl (lv_at hl 1 rfl) ?_
  refine lv_bipush (v := 9) hx hb dL_does_131 (by decide) ?_
  refine lv_icmp_ne (tgt := 147) hx hb dL_does_133 (by decide) (fun _ => ?_) (fun h => absurd h (by decide))
  refine lv_iload_n hx hb dL_does_147 rfl (lv_at hl 1 rfl) ?_
  refine lv_bipush (v := 10) hx hb dL_does_148 (by decide) ?_
  refine lv_icmp_ne (tgt := 164) hx hb dL_does_150 (by decide) (fun _ => ?_) (fun h => absurd h (by decide))
  refine lv_iload_n hx hb dL_does_164 rfl (lv_at hl 1 rfl) ?_
  refine lv_bipush (v := 11) hx hb dL_does_165 (by decide) ?_
  refine lv_icmp_ne (tgt := 186) hx hb dL_does_167 (by decide) (fun _ => ?_) (fun h => absurd h (by decide))
  refine lv_iload_n hx hb dL_does_186 rfl (lv_at hl 1 rfl) ?_
  refine lv_bipush (v := 12) hx hb dL_does_187 (by decide) ?_
  refine lv_icmp_ne (tgt := 208) hx hb dL_does_189 (by decide) (fun _ => ?_) (fun h => absurd h (by decide))
  refine lv_iload_n hx hb dL_does_208 rfl (lv_at hl 1 rfl) ?_
  refine lv_bipush (v := 13) hx hb dL_does_209 (by decide) ?_
  refine lv_icmp_ne (tgt := 223) hx hb dL_does_211 (by decide) (fun _ => ?_) (fun h => absurd h (by decide))
  refine lv_iload_n hx hb dL_does_223 rfl (lv_at hl 1 rfl) ?_
  refine lv_bipush (v := 14) hx hb dL_does_224 (by decide) ?_
  refine lv_icmp_ne (tgt := 237) hx hb dL_does_226 (by decide) (fun h => absurd (by decide) h) (fun _ => ?_)
  refine lv_aload_n hx hb dL_does_229 rfl (lv_at hl 0 rfl) ?_
  refine lv_iload_n hx hb dL_does_230 rfl (lv_at hl 2 rfl) ?_
  refine fx_xcallV (rest := []) (as := [.int ua]) hx hb hml hts hown hK hE hI (cX_pass G hst Z S ua hWZ hC) kLX_59 ⟨(Nat.le_of_ble_eq_true rfl), (Nat.le_of_ble_eq_true rfl)⟩ (kk := 0) (ii := 0) (xW0 (by decide)) rfl rfl hl.1 (Nat.le_of_ble_eq_true rfl) dL_does_231 ⟨(Nat.le_of_ble_eq_true rfl), (Nat.le_of_ble_eq_true rfl)⟩ (fun E ce q9 w' H locs hp hI g1 g2 g3 => ?_) (fun v w' H locs hp hI => ?_)
  · obtain ⟨hpT, rfl⟩ := hp
    have hE9 := tE_pass hpT
    rcases hE9 with rfl | rfl
    · refine jx_catch hts hown hE htab [(0, 287, 288, 74)] (0, 287, 293, 77) [(0, 287, 298, 80)] rfl (fun z hz => by
        simp only [List.mem_cons, List.not_mem_nil, or_false] at hz
        subst hz
        · exact ⟨by decide, _, q102, by decide⟩) (by decide) (by decide) q103 q114 g1 g2 g3 ?_
      refine lv_astore (lv' := [(5, .ref q9), (0, .ref (Z.A 0 0)), (1, .int 14), (2, .int ua), (3, .int ub), (4, .int uc)]) hx hb dL_does_293 hl (by decide) rfl (fun ls hl => ?_)
      refine lv_ldc (v := -20000000) hx hb hown (hts _ q653) dL_does_295 ?_
      exact rx_i hx hb hr hlocks hI hA hQ (Or.inr ⟨EIAE, ⟨hpT, rfl⟩, congrArg (fun z => some (Value.int z)) cdD_2.symm⟩) (Nat.le_of_ble_eq_true rfl) (Nat.le_of_ble_eq_true rfl) dL_does_297
    · refine jx_catch hts hown hE htab [(0, 287, 288, 74), (0, 287, 293, 77)] (0, 287, 298, 80) [] rfl (fun z hz => by
        simp only [List.mem_cons, List.not_mem_nil, or_false] at hz
        rcases hz with rfl | rfl
        · exact ⟨by decide, _, q102, by decide⟩
        · exact ⟨by decide, _, q103, by decide⟩) (by decide) (by decide) q104 q201 g1 g2 g3 ?_
      refine lv_astore (lv' := [(5, .ref q9), (0, .ref (Z.A 0 0)), (1, .int 14), (2, .int ua), (3, .int ub), (4, .int uc)]) hx hb dL_does_298 hl (by decide) rfl (fun ls hl => ?_)
      refine lv_ldc (v := -10000000) hx hb hown (hts _ q654) dL_does_300 ?_
      exact rx_i hx hb hr hlocks hI hA hQ (Or.inr ⟨EISE, ⟨hpT, rfl⟩, congrArg (fun z => some (Value.int z)) cdD_3.symm⟩) (Nat.le_of_ble_eq_true rfl) (Nat.le_of_ble_eq_true rfl) dL_does_302
  · have hp2 := hp
    obtain ⟨hT, rfl, rfl⟩ := hp
    refine lv_goto (tgt := 287) hx hb dL_does_234 (by decide) ?_
    exact rx_i hx hb hr hlocks hI hA hQ (Or.inl ⟨_, hp2, rfl⟩) (Nat.le_of_ble_eq_true rfl) (Nat.le_of_ble_eq_true rfl) dL_does_287
set_option maxHeartbeats 4000000 in
set_option maxRecDepth 100000 in
theorem qD_told (G : GX) (hst : G.1.stackTraces = false) (Z : XZ) (S : XS) (ua ub uc : Int32) (hWZ : WZ Z) : FH G yL_does cL_does 6 (some .int) [(0, 287, 288, 74), (0, 287, 293, 77), (0, 287, 298, 80)] { frames := 8, cells := 2, slots := 12, locals := 127 } [.ref (Z.A 0 0), .int 15, .int ua, .int ub, .int uc] (xW G.2.2.2 G.2.1 Z S) (poE cvi (pvx (X_told Z S ua ub).1 (.int (X_told Z S ua ub).2) (xW G.2.2.2 G.2.1 Z S)) (px (X_told Z S ua ub).1 (xW G.2.2.2 G.2.1 Z S))) := by
  refine FH.go (lv := [(0, .ref (Z.A 0 0)), (1, .int 15), (2, .int ua), (3, .int ub), (4, .int uc)]) (by decide) (Nat.le_of_ble_eq_true rfl) rfl (fun p e s m args below meth c A H locs ls Q hx hb hr hts hown hml hlocks htab hK hE hI hA hl hQ => ?_)
  have hown : s.vm.findClass "IcehighwayLaw" = some m.cls := hown
  refine lv_iload_n hx hb dL_does_0 rfl (lv_at hl 1 rfl) ?_
  refine lv_if_ne (tgt := 15) hx hb dL_does_1 (by decide) (fun _ => ?_) (fun h => absurd h (by decide))
  refine lv_iload_n hx hb dL_does_15 rfl (lv_at hl 1 rfl) ?_
  refine lv_iconst (v := 1) hx hb dL_does_16 (by decide) ?_
  refine lv_icmp_ne (tgt := 28) hx hb dL_does_17 (by decide) (fun _ => ?_) (fun h => absurd h (by decide))
  refine lv_iload_n hx hb dL_does_28 rfl (lv_at hl 1 rfl) ?_
  refine lv_iconst (v := 2) hx hb dL_does_29 (by decide) ?_
  refine lv_icmp_ne (tgt := 41) hx hb dL_does_30 (by decide) (fun _ => ?_) (fun h => absurd h (by decide))
  refine lv_iload_n hx hb dL_does_41 rfl (lv_at hl 1 rfl) ?_
  refine lv_iconst (v := 3) hx hb dL_does_42 (by decide) ?_
  refine lv_icmp_ne (tgt := 54) hx hb dL_does_43 (by decide) (fun _ => ?_) (fun h => absurd h (by decide))
  refine lv_iload_n hx hb dL_does_54 rfl (lv_at hl 1 rfl) ?_
  refine lv_iconst (v := 4) hx hb dL_does_55 (by decide) ?_
  refine lv_icmp_ne (tgt := 68) hx hb dL_does_56 (by decide) (fun _ => ?_) (fun h => absurd h (by decide))
  refine lv_iload_n hx hb dL_does_68 rfl (lv_at hl 1 rfl) ?_
  refine lv_iconst (v := 5) hx hb dL_does_69 (by decide) ?_
  refine lv_icmp_ne (tgt := 86) hx hb dL_does_70 (by decide) (fun _ => ?_) (fun h => absurd h (by decide))
  refine lv_iload_n hx hb dL_does_86 rfl (lv_at hl 1 rfl) ?_
  refine lv_bipush (v := 6) hx hb dL_does_87 (by decide) ?_
  refine lv_icmp_ne (tgt := 101) hx hb dL_does_89 (by decide) (fun _ => ?_) (fun h => absurd h (by decide))
  refine lv_iload_n hx hb dL_does_101 rfl (lv_at hl 1 rfl) ?_
  refine lv_bipush (v := 7) hx hb dL_does_102 (by decide) ?_
  refine lv_icmp_ne (tgt := 116) hx hb dL_does_104 (by decide) (fun _ => ?_) (fun h => absurd h (by decide))
  refine lv_iload_n hx hb dL_does_116 rfl (lv_at hl 1 rfl) ?_
  refine lv_bipush (v := 8) hx hb dL_does_117 (by decide) ?_
  refine lv_icmp_ne (tgt := 130) hx hb dL_does_119 (by decide) (fun _ => ?_) (fun h => absurd h (by decide))
  refine lv_iload_n hx hb dL_does_130 rfl (lv_at hl 1 rfl) ?_
  refine lv_bipush (v := 9) hx hb dL_does_131 (by decide) ?_
  refine lv_icmp_ne (tgt := 147) hx hb dL_does_133 (by decide) (fun _ => ?_) (fun h => absurd h (by decide))
  refine lv_iload_n hx hb dL_does_147 rfl (lv_at hl 1 rfl) ?_
  refine lv_bipush (v := 10) hx hb dL_does_148 (by decide) ?_
  refine lv_icmp_ne (tgt := 164) hx hb dL_does_150 (by decide) (fun _ => ?_) (fun h => absurd h (by decide))
  refine lv_iload_n hx hb dL_does_164 rfl (lv_at hl 1 rfl) ?_
  refine lv_bipush (v := 11) hx hb dL_does_165 (by decide) ?_
  refine lv_icmp_ne (tgt := 186) hx hb dL_does_167 (by decide) (fun _ => ?_) (fun h => absurd h (by decide))
  refine lv_iload_n hx hb dL_does_186 rfl (lv_at hl 1 rfl) ?_
  refine lv_bipush (v := 12) hx hb dL_does_187 (by decide) ?_
  refine lv_icmp_ne (tgt := 208) hx hb dL_does_189 (by decide) (fun _ => ?_) (fun h => absurd h (by decide))
  refine lv_iload_n hx hb dL_does_208 rfl (lv_at hl 1 rfl) ?_
  refine lv_bipush (v := 13) hx hb dL_does_209 (by decide) ?_
  refine lv_icmp_ne (tgt := 223) hx hb dL_does_211 (by decide) (fun _ => ?_) (fun h => absurd h (by decide))
  refine lv_iload_n hx hb dL_does_223 rfl (lv_at hl 1 rfl) ?_
  refine lv_bipush (v := 14) hx hb dL_does_224 (by decide) ?_
  refine lv_icmp_ne (tgt := 237) hx hb dL_does_226 (by decide) (fun _ => ?_) (fun h => absurd h (by decide))
  refine lv_iload_n hx hb dL_does_237 rfl (lv_at hl 1 rfl) ?_
  refine lv_bipush (v := 15) hx hb dL_does_238 (by decide) ?_
  refine lv_icmp_ne (tgt := 252) hx hb dL_does_240 (by decide) (fun h => absurd (by decide) h) (fun _ => ?_)
  refine lv_aload_n hx hb dL_does_243 rfl (lv_at hl 0 rfl) ?_
  refine lv_iload_n hx hb dL_does_244 rfl (lv_at hl 2 rfl) ?_
  refine lv_iload_n hx hb dL_does_245 rfl (lv_at hl 3 rfl) ?_
  refine fx_xcallV (rest := []) (as := [.int ua, .int ub]) hx hb hml hts hown hK hE hI (cX_told G hst Z S ua ub hWZ) kLX_62 ⟨(Nat.le_of_ble_eq_true rfl), (Nat.le_of_ble_eq_true rfl)⟩ (kk := 0) (ii := 0) (xW0 (by decide)) rfl rfl hl.1 (Nat.le_of_ble_eq_true rfl) dL_does_246 ⟨(Nat.le_of_ble_eq_true rfl), (Nat.le_of_ble_eq_true rfl)⟩ (fun E ce q9 w' H locs hp hI g1 g2 g3 => ?_) (fun v w' H locs hp hI => ?_)
  · obtain ⟨hpT, rfl⟩ := hp
    have hE9 := tE_told hpT
    rcases hE9 with rfl | rfl
    · refine jx_catch hts hown hE htab [] (0, 287, 288, 74) [(0, 287, 293, 77), (0, 287, 298, 80)] rfl (fun z hz => by cases hz) (by decide) (by decide) q102 q378 g1 g2 g3 ?_
      refine lv_astore (lv' := [(5, .ref q9), (0, .ref (Z.A 0 0)), (1, .int 15), (2, .int ua), (3, .int ub), (4, .int uc)]) hx hb dL_does_288 hl (by decide) rfl (fun ls hl => ?_)
      refine lv_ldc (v := -30000000) hx hb hown (hts _ q652) dL_does_290 ?_
      exact rx_i hx hb hr hlocks hI hA hQ (Or.inr ⟨EIOB, ⟨hpT, rfl⟩, congrArg (fun z => some (Value.int z)) cdD_1.symm⟩) (Nat.le_of_ble_eq_true rfl) (Nat.le_of_ble_eq_true rfl) dL_does_292
    · refine jx_catch hts hown hE htab [(0, 287, 288, 74)] (0, 287, 293, 77) [(0, 287, 298, 80)] rfl (fun z hz => by
        simp only [List.mem_cons, List.not_mem_nil, or_false] at hz
        subst hz
        · exact ⟨by decide, _, q102, by decide⟩) (by decide) (by decide) q103 q114 g1 g2 g3 ?_
      refine lv_astore (lv' := [(5, .ref q9), (0, .ref (Z.A 0 0)), (1, .int 15), (2, .int ua), (3, .int ub), (4, .int uc)]) hx hb dL_does_293 hl (by decide) rfl (fun ls hl => ?_)
      refine lv_ldc (v := -20000000) hx hb hown (hts _ q653) dL_does_295 ?_
      exact rx_i hx hb hr hlocks hI hA hQ (Or.inr ⟨EIAE, ⟨hpT, rfl⟩, congrArg (fun z => some (Value.int z)) cdD_2.symm⟩) (Nat.le_of_ble_eq_true rfl) (Nat.le_of_ble_eq_true rfl) dL_does_297
  · have hp2 := hp
    obtain ⟨hT, rfl, rfl⟩ := hp
    refine lv_goto (tgt := 287) hx hb dL_does_249 (by decide) ?_
    exact rx_i hx hb hr hlocks hI hA hQ (Or.inl ⟨_, hp2, rfl⟩) (Nat.le_of_ble_eq_true rfl) (Nat.le_of_ble_eq_true rfl) dL_does_287
set_option maxHeartbeats 4000000 in
set_option maxRecDepth 100000 in
theorem qD_ofVehicle (G : GX) (hst : G.1.stackTraces = false) (Z : XZ) (S : XS) (ua ub uc : Int32) (hWZ : WZ Z) (hC : CW Z S) : FH G yL_does cL_does 6 (some .int) [(0, 287, 288, 74), (0, 287, 293, 77), (0, 287, 298, 80)] { frames := 8, cells := 2, slots := 12, locals := 127 } [.ref (Z.A 0 0), .int 16, .int ua, .int ub, .int uc] (xW G.2.2.2 G.2.1 Z S) (poE cvi (pvx (X_ofVehicle Z S ua ub).1 (.int (X_ofVehicle Z S ua ub).2) (xW G.2.2.2 G.2.1 Z S)) (px (X_ofVehicle Z S ua ub).1 (xW G.2.2.2 G.2.1 Z S))) := by
  refine FH.go (lv := [(0, .ref (Z.A 0 0)), (1, .int 16), (2, .int ua), (3, .int ub), (4, .int uc)]) (by decide) (Nat.le_of_ble_eq_true rfl) rfl (fun p e s m args below meth c A H locs ls Q hx hb hr hts hown hml hlocks htab hK hE hI hA hl hQ => ?_)
  have hown : s.vm.findClass "IcehighwayLaw" = some m.cls := hown
  refine lv_iload_n hx hb dL_does_0 rfl (lv_at hl 1 rfl) ?_
  refine lv_if_ne (tgt := 15) hx hb dL_does_1 (by decide) (fun _ => ?_) (fun h => absurd h (by decide))
  refine lv_iload_n hx hb dL_does_15 rfl (lv_at hl 1 rfl) ?_
  refine lv_iconst (v := 1) hx hb dL_does_16 (by decide) ?_
  refine lv_icmp_ne (tgt := 28) hx hb dL_does_17 (by decide) (fun _ => ?_) (fun h => absurd h (by decide))
  refine lv_iload_n hx hb dL_does_28 rfl (lv_at hl 1 rfl) ?_
  refine lv_iconst (v := 2) hx hb dL_does_29 (by decide) ?_
  refine lv_icmp_ne (tgt := 41) hx hb dL_does_30 (by decide) (fun _ => ?_) (fun h => absurd h (by decide))
  refine lv_iload_n hx hb dL_does_41 rfl (lv_at hl 1 rfl) ?_
  refine lv_iconst (v := 3) hx hb dL_does_42 (by decide) ?_
  refine lv_icmp_ne (tgt := 54) hx hb dL_does_43 (by decide) (fun _ => ?_) (fun h => absurd h (by decide))
  refine lv_iload_n hx hb dL_does_54 rfl (lv_at hl 1 rfl) ?_
  refine lv_iconst (v := 4) hx hb dL_does_55 (by decide) ?_
  refine lv_icmp_ne (tgt := 68) hx hb dL_does_56 (by decide) (fun _ => ?_) (fun h => absurd h (by decide))
  refine lv_iload_n hx hb dL_does_68 rfl (lv_at hl 1 rfl) ?_
  refine lv_iconst (v := 5) hx hb dL_does_69 (by decide) ?_
  refine lv_icmp_ne (tgt := 86) hx hb dL_does_70 (by decide) (fun _ => ?_) (fun h => absurd h (by decide))
  refine lv_iload_n hx hb dL_does_86 rfl (lv_at hl 1 rfl) ?_
  refine lv_bipush (v := 6) hx hb dL_does_87 (by decide) ?_
  refine lv_icmp_ne (tgt := 101) hx hb dL_does_89 (by decide) (fun _ => ?_) (fun h => absurd h (by decide))
  refine lv_iload_n hx hb dL_does_101 rfl (lv_at hl 1 rfl) ?_
  refine lv_bipush (v := 7) hx hb dL_does_102 (by decide) ?_
  refine lv_icmp_ne (tgt := 116) hx hb dL_does_104 (by decide) (fun _ => ?_) (fun h => absurd h (by decide))
  refine lv_iload_n hx hb dL_does_116 rfl (lv_at hl 1 rfl) ?_
  refine lv_bipush (v := 8) hx hb dL_does_117 (by decide) ?_
  refine lv_icmp_ne (tgt := 130) hx hb dL_does_119 (by decide) (fun _ => ?_) (fun h => absurd h (by decide))
  refine lv_iload_n hx hb dL_does_130 rfl (lv_at hl 1 rfl) ?_
  refine lv_bipush (v := 9) hx hb dL_does_131 (by decide) ?_
  refine lv_icmp_ne (tgt := 147) hx hb dL_does_133 (by decide) (fun _ => ?_) (fun h => absurd h (by decide))
  refine lv_iload_n hx hb dL_does_147 rfl (lv_at hl 1 rfl) ?_
  refine lv_bipush (v := 10) hx hb dL_does_148 (by decide) ?_
  refine lv_icmp_ne (tgt := 164) hx hb dL_does_150 (by decide) (fun _ => ?_) (fun h => absurd h (by decide))
  refine lv_iload_n hx hb dL_does_164 rfl (lv_at hl 1 rfl) ?_
  refine lv_bipush (v := 11) hx hb dL_does_165 (by decide) ?_
  refine lv_icmp_ne (tgt := 186) hx hb dL_does_167 (by decide) (fun _ => ?_) (fun h => absurd h (by decide))
  refine lv_iload_n hx hb dL_does_186 rfl (lv_at hl 1 rfl) ?_
  refine lv_bipush (v := 12) hx hb dL_does_187 (by decide) ?_
  refine lv_icmp_ne (tgt := 208) hx hb dL_does_189 (by decide) (fun _ => ?_) (fun h => absurd h (by decide))
  refine lv_iload_n hx hb dL_does_208 rfl (lv_at hl 1 rfl) ?_
  refine lv_bipush (v := 13) hx hb dL_does_209 (by decide) ?_
  refine lv_icmp_ne (tgt := 223) hx hb dL_does_211 (by decide) (fun _ => ?_) (fun h => absurd h (by decide))
  refine lv_iload_n hx hb dL_does_223 rfl (lv_at hl 1 rfl) ?_
  refine lv_bipush (v := 14) hx hb dL_does_224 (by decide) ?_
  refine lv_icmp_ne (tgt := 237) hx hb dL_does_226 (by decide) (fun _ => ?_) (fun h => absurd h (by decide))
  refine lv_iload_n hx hb dL_does_237 rfl (lv_at hl 1 rfl) ?_
  refine lv_bipush (v := 15) hx hb dL_does_238 (by decide) ?_
  refine lv_icmp_ne (tgt := 252) hx hb dL_does_240 (by decide) (fun _ => ?_) (fun h => absurd h (by decide))
  refine lv_iload_n hx hb dL_does_252 rfl (lv_at hl 1 rfl) ?_
  refine lv_bipush (v := 16) hx hb dL_does_253 (by decide) ?_
  refine lv_icmp_ne (tgt := 267) hx hb dL_does_255 (by decide) (fun h => absurd (by decide) h) (fun _ => ?_)
  refine lv_aload_n hx hb dL_does_258 rfl (lv_at hl 0 rfl) ?_
  refine lv_iload_n hx hb dL_does_259 rfl (lv_at hl 2 rfl) ?_
  refine lv_iload_n hx hb dL_does_260 rfl (lv_at hl 3 rfl) ?_
  refine fx_xcallV (rest := []) (as := [.int ua, .int ub]) hx hb hml hts hown hK hE hI (cX_ofVehicle G hst Z S ua ub hWZ hC) kLX_65 ⟨(Nat.le_of_ble_eq_true rfl), (Nat.le_of_ble_eq_true rfl)⟩ (kk := 0) (ii := 0) (xW0 (by decide)) rfl rfl hl.1 (Nat.le_of_ble_eq_true rfl) dL_does_261 ⟨(Nat.le_of_ble_eq_true rfl), (Nat.le_of_ble_eq_true rfl)⟩ (fun E ce q9 w' H locs hp hI g1 g2 g3 => ?_) (fun v w' H locs hp hI => ?_)
  · obtain ⟨hpT, rfl⟩ := hp
    have hE9 := tE_ofVehicle hpT
    rcases hE9 with rfl | rfl
    · refine jx_catch hts hown hE htab [] (0, 287, 288, 74) [(0, 287, 293, 77), (0, 287, 298, 80)] rfl (fun z hz => by cases hz) (by decide) (by decide) q102 q378 g1 g2 g3 ?_
      refine lv_astore (lv' := [(5, .ref q9), (0, .ref (Z.A 0 0)), (1, .int 16), (2, .int ua), (3, .int ub), (4, .int uc)]) hx hb dL_does_288 hl (by decide) rfl (fun ls hl => ?_)
      refine lv_ldc (v := -30000000) hx hb hown (hts _ q652) dL_does_290 ?_
      exact rx_i hx hb hr hlocks hI hA hQ (Or.inr ⟨EIOB, ⟨hpT, rfl⟩, congrArg (fun z => some (Value.int z)) cdD_1.symm⟩) (Nat.le_of_ble_eq_true rfl) (Nat.le_of_ble_eq_true rfl) dL_does_292
    · refine jx_catch hts hown hE htab [(0, 287, 288, 74)] (0, 287, 293, 77) [(0, 287, 298, 80)] rfl (fun z hz => by
        simp only [List.mem_cons, List.not_mem_nil, or_false] at hz
        subst hz
        · exact ⟨by decide, _, q102, by decide⟩) (by decide) (by decide) q103 q114 g1 g2 g3 ?_
      refine lv_astore (lv' := [(5, .ref q9), (0, .ref (Z.A 0 0)), (1, .int 16), (2, .int ua), (3, .int ub), (4, .int uc)]) hx hb dL_does_293 hl (by decide) rfl (fun ls hl => ?_)
      refine lv_ldc (v := -20000000) hx hb hown (hts _ q653) dL_does_295 ?_
      exact rx_i hx hb hr hlocks hI hA hQ (Or.inr ⟨EIAE, ⟨hpT, rfl⟩, congrArg (fun z => some (Value.int z)) cdD_2.symm⟩) (Nat.le_of_ble_eq_true rfl) (Nat.le_of_ble_eq_true rfl) dL_does_297
  · have hp2 := hp
    obtain ⟨hT, rfl, rfl⟩ := hp
    refine lv_goto (tgt := 287) hx hb dL_does_264 (by decide) ?_
    exact rx_i hx hb hr hlocks hI hA hQ (Or.inl ⟨_, hp2, rfl⟩) (Nat.le_of_ble_eq_true rfl) (Nat.le_of_ble_eq_true rfl) dL_does_287
set_option maxHeartbeats 4000000 in
set_option maxRecDepth 100000 in
theorem qD_why (G : GX) (hst : G.1.stackTraces = false) (Z : XZ) (S : XS) (ua ub uc : Int32) (hWZ : WZ Z) (hC : CW Z S) : FH G yL_does cL_does 6 (some .int) [(0, 287, 288, 74), (0, 287, 293, 77), (0, 287, 298, 80)] { frames := 8, cells := 1, slots := 6, locals := 132 } [.ref (Z.A 0 0), .int 17, .int ua, .int ub, .int uc] (xW G.2.2.2 G.2.1 Z S) (poE cvi (pvx (X_why Z S ua).1 (.int (X_why Z S ua).2) (xW G.2.2.2 G.2.1 Z S)) (px (X_why Z S ua).1 (xW G.2.2.2 G.2.1 Z S))) := by
  refine FH.go (lv := [(0, .ref (Z.A 0 0)), (1, .int 17), (2, .int ua), (3, .int ub), (4, .int uc)]) (by decide) (Nat.le_of_ble_eq_true rfl) rfl (fun p e s m args below meth c A H locs ls Q hx hb hr hts hown hml hlocks htab hK hE hI hA hl hQ => ?_)
  have hown : s.vm.findClass "IcehighwayLaw" = some m.cls := hown
  refine lv_iload_n hx hb dL_does_0 rfl (lv_at hl 1 rfl) ?_
  refine lv_if_ne (tgt := 15) hx hb dL_does_1 (by decide) (fun _ => ?_) (fun h => absurd h (by decide))
  refine lv_iload_n hx hb dL_does_15 rfl (lv_at hl 1 rfl) ?_
  refine lv_iconst (v := 1) hx hb dL_does_16 (by decide) ?_
  refine lv_icmp_ne (tgt := 28) hx hb dL_does_17 (by decide) (fun _ => ?_) (fun h => absurd h (by decide))
  refine lv_iload_n hx hb dL_does_28 rfl (lv_at hl 1 rfl) ?_
  refine lv_iconst (v := 2) hx hb dL_does_29 (by decide) ?_
  refine lv_icmp_ne (tgt := 41) hx hb dL_does_30 (by decide) (fun _ => ?_) (fun h => absurd h (by decide))
  refine lv_iload_n hx hb dL_does_41 rfl (lv_at hl 1 rfl) ?_
  refine lv_iconst (v := 3) hx hb dL_does_42 (by decide) ?_
  refine lv_icmp_ne (tgt := 54) hx hb dL_does_43 (by decide) (fun _ => ?_) (fun h => absurd h (by decide))
  refine lv_iload_n hx hb dL_does_54 rfl (lv_at hl 1 rfl) ?_
  refine lv_iconst (v := 4) hx hb dL_does_55 (by decide) ?_
  refine lv_icmp_ne (tgt := 68) hx hb dL_does_56 (by decide) (fun _ => ?_) (fun h => absurd h (by decide))
  refine lv_iload_n hx hb dL_does_68 rfl (lv_at hl 1 rfl) ?_
  refine lv_iconst (v := 5) hx hb dL_does_69 (by decide) ?_
  refine lv_icmp_ne (tgt := 86) hx hb dL_does_70 (by decide) (fun _ => ?_) (fun h => absurd h (by decide))
  refine lv_iload_n hx hb dL_does_86 rfl (lv_at hl 1 rfl) ?_
  refine lv_bipush (v := 6) hx hb dL_does_87 (by decide) ?_
  refine lv_icmp_ne (tgt := 101) hx hb dL_does_89 (by decide) (fun _ => ?_) (fun h => absurd h (by decide))
  refine lv_iload_n hx hb dL_does_101 rfl (lv_at hl 1 rfl) ?_
  refine lv_bipush (v := 7) hx hb dL_does_102 (by decide) ?_
  refine lv_icmp_ne (tgt := 116) hx hb dL_does_104 (by decide) (fun _ => ?_) (fun h => absurd h (by decide))
  refine lv_iload_n hx hb dL_does_116 rfl (lv_at hl 1 rfl) ?_
  refine lv_bipush (v := 8) hx hb dL_does_117 (by decide) ?_
  refine lv_icmp_ne (tgt := 130) hx hb dL_does_119 (by decide) (fun _ => ?_) (fun h => absurd h (by decide))
  refine lv_iload_n hx hb dL_does_130 rfl (lv_at hl 1 rfl) ?_
  refine lv_bipush (v := 9) hx hb dL_does_131 (by decide) ?_
  refine lv_icmp_ne (tgt := 147) hx hb dL_does_133 (by decide) (fun _ => ?_) (fun h => absurd h (by decide))
  refine lv_iload_n hx hb dL_does_147 rfl (lv_at hl 1 rfl) ?_
  refine lv_bipush (v := 10) hx hb dL_does_148 (by decide) ?_
  refine lv_icmp_ne (tgt := 164) hx hb dL_does_150 (by decide) (fun _ => ?_) (fun h => absurd h (by decide))
  refine lv_iload_n hx hb dL_does_164 rfl (lv_at hl 1 rfl) ?_
  refine lv_bipush (v := 11) hx hb dL_does_165 (by decide) ?_
  refine lv_icmp_ne (tgt := 186) hx hb dL_does_167 (by decide) (fun _ => ?_) (fun h => absurd h (by decide))
  refine lv_iload_n hx hb dL_does_186 rfl (lv_at hl 1 rfl) ?_
  refine lv_bipush (v := 12) hx hb dL_does_187 (by decide) ?_
  refine lv_icmp_ne (tgt := 208) hx hb dL_does_189 (by decide) (fun _ => ?_) (fun h => absurd h (by decide))
  refine lv_iload_n hx hb dL_does_208 rfl (lv_at hl 1 rfl) ?_
  refine lv_bipush (v := 13) hx hb dL_does_209 (by decide) ?_
  refine lv_icmp_ne (tgt := 223) hx hb dL_does_211 (by decide) (fun _ => ?_) (fun h => absurd h (by decide))
  refine lv_iload_n hx hb dL_does_223 rfl (lv_at hl 1 rfl) ?_
  refine lv_bipush (v := 14) hx hb dL_does_224 (by decide) ?_
  refine lv_icmp_ne (tgt := 237) hx hb dL_does_226 (by decide) (fun _ => ?_) (fun h => absurd h (by decide))
  refine lv_iload_n hx hb dL_does_237 rfl (lv_at hl 1 rfl) ?_
  refine lv_bipush (v := 15) hx hb dL_does_238 (by decide) ?_
  refine lv_icmp_ne (tgt := 252) hx hb dL_does_240 (by decide) (fun _ => ?_) (fun h => absurd h (by decide))
  refine lv_iload_n hx hb dL_does_252 rfl (lv_at hl 1 rfl) ?_
  refine lv_bipush (v := 16) hx hb dL_does_253 (by decide) ?_
  refine lv_icmp_ne (tgt := 267) hx hb dL_does_255 (by decide) (fun _ => ?_) (fun h => absurd h (by decide))
  refine lv_iload_n hx hb dL_does_267 rfl (lv_at hl 1 rfl) ?_
  refine lv_bipush (v := 17) hx hb dL_does_268 (by decide) ?_
  refine lv_icmp_ne (tgt := 281) hx hb dL_does_270 (by decide) (fun h => absurd (by decide) h) (fun _ => ?_)
  refine lv_aload_n hx hb dL_does_273 rfl (lv_at hl 0 rfl) ?_
  refine lv_iload_n hx hb dL_does_274 rfl (lv_at hl 2 rfl) ?_
  refine fx_xcallV (rest := []) (as := [.int ua]) hx hb hml hts hown hK hE hI (cX_why G hst Z S ua hWZ hC) kLX_68 ⟨(Nat.le_of_ble_eq_true rfl), (Nat.le_of_ble_eq_true rfl)⟩ (kk := 0) (ii := 0) (xW0 (by decide)) rfl rfl hl.1 (Nat.le_of_ble_eq_true rfl) dL_does_275 ⟨(Nat.le_of_ble_eq_true rfl), (Nat.le_of_ble_eq_true rfl)⟩ (fun E ce q9 w' H locs hp hI g1 g2 g3 => ?_) (fun v w' H locs hp hI => ?_)
  · obtain ⟨hpT, rfl⟩ := hp
    have hE9 := tE_why hpT
    subst hE9
    refine jx_catch hts hown hE htab [] (0, 287, 288, 74) [(0, 287, 293, 77), (0, 287, 298, 80)] rfl (fun z hz => by cases hz) (by decide) (by decide) q102 q378 g1 g2 g3 ?_
    refine lv_astore (lv' := [(5, .ref q9), (0, .ref (Z.A 0 0)), (1, .int 17), (2, .int ua), (3, .int ub), (4, .int uc)]) hx hb dL_does_288 hl (by decide) rfl (fun ls hl => ?_)
    refine lv_ldc (v := -30000000) hx hb hown (hts _ q652) dL_does_290 ?_
    exact rx_i hx hb hr hlocks hI hA hQ (Or.inr ⟨EIOB, ⟨hpT, rfl⟩, congrArg (fun z => some (Value.int z)) cdD_1.symm⟩) (Nat.le_of_ble_eq_true rfl) (Nat.le_of_ble_eq_true rfl) dL_does_292
  · have hp2 := hp
    obtain ⟨hT, rfl, rfl⟩ := hp
    refine lv_goto (tgt := 287) hx hb dL_does_278 (by decide) ?_
    exact rx_i hx hb hr hlocks hI hA hQ (Or.inl ⟨_, hp2, rfl⟩) (Nat.le_of_ble_eq_true rfl) (Nat.le_of_ble_eq_true rfl) dL_does_287
set_option maxHeartbeats 4000000 in
set_option maxRecDepth 100000 in
theorem qD_kilos (G : GX) (hst : G.1.stackTraces = false) (Z : XZ) (S : XS) (ua ub uc : Int32) (hWZ : WZ Z) (hC : CW Z S) : FH G yL_does cL_does 6 (some .int) [(0, 287, 288, 74), (0, 287, 293, 77), (0, 287, 298, 80)] { frames := 8, cells := 2, slots := 12, locals := 126 } [.ref (Z.A 0 0), .int 18, .int ua, .int ub, .int uc] (xW G.2.2.2 G.2.1 Z S) (poE cvi (pvx (X_kilos Z S ua ub).1 (.int (X_kilos Z S ua ub).2) (xW G.2.2.2 G.2.1 Z S)) (px (X_kilos Z S ua ub).1 (xW G.2.2.2 G.2.1 Z S))) := by
  refine FH.go (lv := [(0, .ref (Z.A 0 0)), (1, .int 18), (2, .int ua), (3, .int ub), (4, .int uc)]) (by decide) (Nat.le_of_ble_eq_true rfl) rfl (fun p e s m args below meth c A H locs ls Q hx hb hr hts hown hml hlocks htab hK hE hI hA hl hQ => ?_)
  have hown : s.vm.findClass "IcehighwayLaw" = some m.cls := hown
  refine lv_iload_n hx hb dL_does_0 rfl (lv_at hl 1 rfl) ?_
  refine lv_if_ne (tgt := 15) hx hb dL_does_1 (by decide) (fun _ => ?_) (fun h => absurd h (by decide))
  refine lv_iload_n hx hb dL_does_15 rfl (lv_at hl 1 rfl) ?_
  refine lv_iconst (v := 1) hx hb dL_does_16 (by decide) ?_
  refine lv_icmp_ne (tgt := 28) hx hb dL_does_17 (by decide) (fun _ => ?_) (fun h => absurd h (by decide))
  refine lv_iload_n hx hb dL_does_28 rfl (lv_at hl 1 rfl) ?_
  refine lv_iconst (v := 2) hx hb dL_does_29 (by decide) ?_
  refine lv_icmp_ne (tgt := 41) hx hb dL_does_30 (by decide) (fun _ => ?_) (fun h => absurd h (by decide))
  refine lv_iload_n hx hb dL_does_41 rfl (lv_at hl 1 rfl) ?_
  refine lv_iconst (v := 3) hx hb dL_does_42 (by decide) ?_
  refine lv_icmp_ne (tgt := 54) hx hb dL_does_43 (by decide) (fun _ => ?_) (fun h => absurd h (by decide))
  refine lv_iload_n hx hb dL_does_54 rfl (lv_at hl 1 rfl) ?_
  refine lv_iconst (v := 4) hx hb dL_does_55 (by decide) ?_
  refine lv_icmp_ne (tgt := 68) hx hb dL_does_56 (by decide) (fun _ => ?_) (fun h => absurd h (by decide))
  refine lv_iload_n hx hb dL_does_68 rfl (lv_at hl 1 rfl) ?_
  refine lv_iconst (v := 5) hx hb dL_does_69 (by decide) ?_
  refine lv_icmp_ne (tgt := 86) hx hb dL_does_70 (by decide) (fun _ => ?_) (fun h => absurd h (by decide))
  refine lv_iload_n hx hb dL_does_86 rfl (lv_at hl 1 rfl) ?_
  refine lv_bipush (v := 6) hx hb dL_does_87 (by decide) ?_
  refine lv_icmp_ne (tgt := 101) hx hb dL_does_89 (by decide) (fun _ => ?_) (fun h => absurd h (by decide))
  refine lv_iload_n hx hb dL_does_101 rfl (lv_at hl 1 rfl) ?_
  refine lv_bipush (v := 7) hx hb dL_does_102 (by decide) ?_
  refine lv_icmp_ne (tgt := 116) hx hb dL_does_104 (by decide) (fun _ => ?_) (fun h => absurd h (by decide))
  refine lv_iload_n hx hb dL_does_116 rfl (lv_at hl 1 rfl) ?_
  refine lv_bipush (v := 8) hx hb dL_does_117 (by decide) ?_
  refine lv_icmp_ne (tgt := 130) hx hb dL_does_119 (by decide) (fun _ => ?_) (fun h => absurd h (by decide))
  refine lv_iload_n hx hb dL_does_130 rfl (lv_at hl 1 rfl) ?_
  refine lv_bipush (v := 9) hx hb dL_does_131 (by decide) ?_
  refine lv_icmp_ne (tgt := 147) hx hb dL_does_133 (by decide) (fun _ => ?_) (fun h => absurd h (by decide))
  refine lv_iload_n hx hb dL_does_147 rfl (lv_at hl 1 rfl) ?_
  refine lv_bipush (v := 10) hx hb dL_does_148 (by decide) ?_
  refine lv_icmp_ne (tgt := 164) hx hb dL_does_150 (by decide) (fun _ => ?_) (fun h => absurd h (by decide))
  refine lv_iload_n hx hb dL_does_164 rfl (lv_at hl 1 rfl) ?_
  refine lv_bipush (v := 11) hx hb dL_does_165 (by decide) ?_
  refine lv_icmp_ne (tgt := 186) hx hb dL_does_167 (by decide) (fun _ => ?_) (fun h => absurd h (by decide))
  refine lv_iload_n hx hb dL_does_186 rfl (lv_at hl 1 rfl) ?_
  refine lv_bipush (v := 12) hx hb dL_does_187 (by decide) ?_
  refine lv_icmp_ne (tgt := 208) hx hb dL_does_189 (by decide) (fun _ => ?_) (fun h => absurd h (by decide))
  refine lv_iload_n hx hb dL_does_208 rfl (lv_at hl 1 rfl) ?_
  refine lv_bipush (v := 13) hx hb dL_does_209 (by decide) ?_
  refine lv_icmp_ne (tgt := 223) hx hb dL_does_211 (by decide) (fun _ => ?_) (fun h => absurd h (by decide))
  refine lv_iload_n hx hb dL_does_223 rfl (lv_at hl 1 rfl) ?_
  refine lv_bipush (v := 14) hx hb dL_does_224 (by decide) ?_
  refine lv_icmp_ne (tgt := 237) hx hb dL_does_226 (by decide) (fun _ => ?_) (fun h => absurd h (by decide))
  refine lv_iload_n hx hb dL_does_237 rfl (lv_at hl 1 rfl) ?_
  refine lv_bipush (v := 15) hx hb dL_does_238 (by decide) ?_
  refine lv_icmp_ne (tgt := 252) hx hb dL_does_240 (by decide) (fun _ => ?_) (fun h => absurd h (by decide))
  refine lv_iload_n hx hb dL_does_252 rfl (lv_at hl 1 rfl) ?_
  refine lv_bipush (v := 16) hx hb dL_does_253 (by decide) ?_
  refine lv_icmp_ne (tgt := 267) hx hb dL_does_255 (by decide) (fun _ => ?_) (fun h => absurd h (by decide))
  refine lv_iload_n hx hb dL_does_267 rfl (lv_at hl 1 rfl) ?_
  refine lv_bipush (v := 17) hx hb dL_does_268 (by decide) ?_
  refine lv_icmp_ne (tgt := 281) hx hb dL_does_270 (by decide) (fun _ => ?_) (fun h => absurd h (by decide))
  refine lv_aload_n hx hb dL_does_281 rfl (lv_at hl 0 rfl) ?_
  refine lv_iload_n hx hb dL_does_282 rfl (lv_at hl 2 rfl) ?_
  refine lv_iload_n hx hb dL_does_283 rfl (lv_at hl 3 rfl) ?_
  refine fx_xcallV (rest := []) (as := [.int ua, .int ub]) hx hb hml hts hown hK hE hI (cX_kilos G hst Z S ua ub hWZ hC) kLX_71 ⟨(Nat.le_of_ble_eq_true rfl), (Nat.le_of_ble_eq_true rfl)⟩ (kk := 0) (ii := 0) (xW0 (by decide)) rfl rfl hl.1 (Nat.le_of_ble_eq_true rfl) dL_does_284 ⟨(Nat.le_of_ble_eq_true rfl), (Nat.le_of_ble_eq_true rfl)⟩ (fun E ce q9 w' H locs hp hI g1 g2 g3 => ?_) (fun v w' H locs hp hI => ?_)
  · obtain ⟨hpT, rfl⟩ := hp
    have hE9 := tE_kilos hpT
    rcases hE9 with rfl | rfl
    · refine jx_catch hts hown hE htab [] (0, 287, 288, 74) [(0, 287, 293, 77), (0, 287, 298, 80)] rfl (fun z hz => by cases hz) (by decide) (by decide) q102 q378 g1 g2 g3 ?_
      refine lv_astore (lv' := [(5, .ref q9), (0, .ref (Z.A 0 0)), (1, .int 18), (2, .int ua), (3, .int ub), (4, .int uc)]) hx hb dL_does_288 hl (by decide) rfl (fun ls hl => ?_)
      refine lv_ldc (v := -30000000) hx hb hown (hts _ q652) dL_does_290 ?_
      exact rx_i hx hb hr hlocks hI hA hQ (Or.inr ⟨EIOB, ⟨hpT, rfl⟩, congrArg (fun z => some (Value.int z)) cdD_1.symm⟩) (Nat.le_of_ble_eq_true rfl) (Nat.le_of_ble_eq_true rfl) dL_does_292
    · refine jx_catch hts hown hE htab [(0, 287, 288, 74)] (0, 287, 293, 77) [(0, 287, 298, 80)] rfl (fun z hz => by
        simp only [List.mem_cons, List.not_mem_nil, or_false] at hz
        subst hz
        · exact ⟨by decide, _, q102, by decide⟩) (by decide) (by decide) q103 q114 g1 g2 g3 ?_
      refine lv_astore (lv' := [(5, .ref q9), (0, .ref (Z.A 0 0)), (1, .int 18), (2, .int ua), (3, .int ub), (4, .int uc)]) hx hb dL_does_293 hl (by decide) rfl (fun ls hl => ?_)
      refine lv_ldc (v := -20000000) hx hb hown (hts _ q653) dL_does_295 ?_
      exact rx_i hx hb hr hlocks hI hA hQ (Or.inr ⟨EIAE, ⟨hpT, rfl⟩, congrArg (fun z => some (Value.int z)) cdD_2.symm⟩) (Nat.le_of_ble_eq_true rfl) (Nat.le_of_ble_eq_true rfl) dL_does_297
  · have hp2 := hp
    obtain ⟨hT, rfl, rfl⟩ := hp
    exact rx_i hx hb hr hlocks hI hA hQ (Or.inl ⟨_, hp2, rfl⟩) (Nat.le_of_ble_eq_true rfl) (Nat.le_of_ble_eq_true rfl) dL_does_287
