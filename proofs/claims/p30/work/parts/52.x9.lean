def X_iLoad (Z : XZ) (S : XS) (it : Nat) (ug : Int32) (uk : Int32) : XS :=
  let S1 := xset S 3 it 2 0
  let S2 := xset S1 3 it 0 ug
  let S3 := xset S2 3 it 1 uk
  S3
set_option maxHeartbeats 4000000 in
set_option maxRecDepth 100000 in
theorem cX_iLoad (G : GX) (Z : XZ) (S : XS) (it : Nat) (ug : Int32) (uk : Int32) (hit : it < Z.O 3) : FC G yX0_init cX0_init 3 none ({ frames := 1, cells := 0, slots := 0, locals := 24 }) [.ref (Z.A 3 it), .int ug, .int uk] (xW G.2.2.2 G.2.1 Z S) (p0 (xW G.2.2.2 G.2.1 Z (X_iLoad Z S it ug uk))) := by
  refine FC.go (lv := [(0, .ref (Z.A 3 it)), (1, .int ug), (2, .int uk)]) (by decide) (Nat.le_of_ble_eq_true rfl) rfl (fun p e s m args below meth c A H locs ls Q hx hb hr hts hown hml hlocks hnm hK hE hI hA hl hQ => ?_)
  have hown : s.vm.findClass RX0 = some m.cls := hown
  refine lv_aload_n hx hb dX0_init_0 rfl (lv_at hl 0 rfl) ?_
  refine W.objInit hx hb hown (hts _ q492) (hts _ q26) (hts _ q27) rfl (by rw [hml]; exact hl.1) rfl dX0_init_1 (Nat.le_of_ble_eq_true rfl) (Nat.le_of_ble_eq_true rfl) ?_
  refine lv_aload_n hx hb dX0_init_4 rfl (lv_at hl 0 rfl) ?_
  refine lv_iconst (v := 0) hx hb dX0_init_5 (by decide) ?_
  obtain ⟨S1, eS1⟩ : ∃ z : XS, z = xset S 3 it 2 0 := ⟨_, rfl⟩
  refine pX0_7 (i := it) hx hb hts hown hK hI hit (by decide) eS1 dX0_init_6 (fun H locs hI => ?_)
  refine lv_aload_n hx hb dX0_init_9 rfl (lv_at hl 0 rfl) ?_
  refine lv_iload_n hx hb dX0_init_10 rfl (lv_at hl 1 rfl) ?_
  obtain ⟨S2, eS2⟩ : ∃ z : XS, z = xset S1 3 it 0 ug := ⟨_, rfl⟩
  refine pX0_13 (i := it) hx hb hts hown hK hI hit hnm eS2 dX0_init_11 (fun H locs hI => ?_)
  refine lv_aload_n hx hb dX0_init_14 rfl (lv_at hl 0 rfl) ?_
  refine lv_iload_n hx hb dX0_init_15 rfl (lv_at hl 2 rfl) ?_
  obtain ⟨S3, eS3⟩ : ∃ z : XS, z = xset S2 3 it 1 uk := ⟨_, rfl⟩
  refine pX0_17 (i := it) hx hb hts hown hK hI hit hnm eS3 dX0_init_16 (fun H locs hI => ?_)
  have HE : X_iLoad Z S it ug uk = S3 := by subst eS3 eS2 eS1; exact rfl
  exact rt_v hx hb hr hlocks hI hA hQ ⟨rfl, by rw [HE]⟩ (Nat.zero_le _) (Nat.zero_le _) dX0_init_19

def X_iPiece (Z : XZ) (S : XS) (it : Nat) (ui : Int32) (uf : Int32) (ud : Int32) : XS :=
  let S1 := xset S 1 it 3 0
  let S2 := xset S1 1 it 4 0
  let S3 := xset S2 1 it 5 0
  let S4 := xset S3 1 it 6 0
  let S5 := xset S4 1 it 7 0
  let S6 := xset S5 1 it 8 0
  let S7 := xset S6 1 it 9 100
  let S8 := xkset S7 it ⟨FP.dconst0, nn_0⟩
  let S9 := xset S8 1 it 11 0
  let S10 := xset S9 1 it 12 0
  let S11 := xset S10 1 it 13 0
  let S12 := xset S11 1 it 14 (-1000)
  let S13 := xset S12 1 it 15 (-1000)
  let S14 := xset S13 1 it 0 ui
  let S15 := xset S14 1 it 1 uf
  let S16 := xset S15 1 it 2 ud
  S16
set_option maxHeartbeats 4000000 in
set_option maxRecDepth 100000 in
theorem cX_iPiece (G : GX) (Z : XZ) (S : XS) (it : Nat) (ui : Int32) (uf : Int32) (ud : Int32) (hit : it < Z.O 1) : FC G yX1_init cX1_init 4 none ({ frames := 1, cells := 0, slots := 0, locals := 24 }) [.ref (Z.A 1 it), .int ui, .int uf, .int ud] (xW G.2.2.2 G.2.1 Z S) (p0 (xW G.2.2.2 G.2.1 Z (X_iPiece Z S it ui uf ud))) := by
  refine FC.go (lv := [(0, .ref (Z.A 1 it)), (1, .int ui), (2, .int uf), (3, .int ud)]) (by decide) (Nat.le_of_ble_eq_true rfl) rfl (fun p e s m args below meth c A H locs ls Q hx hb hr hts hown hml hlocks hnm hK hE hI hA hl hQ => ?_)
  have hown : s.vm.findClass RX1 = some m.cls := hown
  refine lv_aload_n hx hb dX1_init_0 rfl (lv_at hl 0 rfl) ?_
  refine W.objInit hx hb hown (hts _ q220) (hts _ q26) (hts _ q27) rfl (by rw [hml]; exact hl.1) rfl dX1_init_1 (Nat.le_of_ble_eq_true rfl) (Nat.le_of_ble_eq_true rfl) ?_
  refine lv_aload_n hx hb dX1_init_4 rfl (lv_at hl 0 rfl) ?_
  refine lv_iconst (v := 0) hx hb dX1_init_5 (by decide) ?_
  obtain ⟨S1, eS1⟩ : ∃ z : XS, z = xset S 1 it 3 0 := ⟨_, rfl⟩
  refine pX1_9 (i := it) hx hb hts hown hK hI hit eS1 dX1_init_6 (fun H locs hI => ?_)
  refine lv_aload_n hx hb dX1_init_9 rfl (lv_at hl 0 rfl) ?_
  refine lv_iconst (v := 0) hx hb dX1_init_10 (by decide) ?_
  obtain ⟨S2, eS2⟩ : ∃ z : XS, z = xset S1 1 it 4 0 := ⟨_, rfl⟩
  refine pX1_15 (i := it) hx hb hts hown hK hI hit eS2 dX1_init_11 (fun H locs hI => ?_)
  refine lv_aload_n hx hb dX1_init_14 rfl (lv_at hl 0 rfl) ?_
  refine lv_iconst (v := 0) hx hb dX1_init_15 (by decide) ?_
  obtain ⟨S3, eS3⟩ : ∃ z : XS, z = xset S2 1 it 5 0 := ⟨_, rfl⟩
  refine pX1_18 (i := it) hx hb hts hown hK hI hit eS3 dX1_init_16 (fun H locs hI => ?_)
  refine lv_aload_n hx hb dX1_init_19 rfl (lv_at hl 0 rfl) ?_
  refine lv_iconst (v := 0) hx hb dX1_init_20 (by decide) ?_
  obtain ⟨S4, eS4⟩ : ∃ z : XS, z = xset S3 1 it 6 0 := ⟨_, rfl⟩
  refine pX1_21 (i := it) hx hb hts hown hK hI hit eS4 dX1_init_21 (fun H locs hI => ?_)
  refine lv_aload_n hx hb dX1_init_24 rfl (lv_at hl 0 rfl) ?_
  refine lv_iconst (v := 0) hx hb dX1_init_25 (by decide) ?_
  obtain ⟨S5, eS5⟩ : ∃ z : XS, z = xset S4 1 it 7 0 := ⟨_, rfl⟩
  refine pX1_24 (i := it) hx hb hts hown hK hI hit eS5 dX1_init_26 (fun H locs hI => ?_)
  refine lv_aload_n hx hb dX1_init_29 rfl (lv_at hl 0 rfl) ?_
  refine lv_iconst (v := 0) hx hb dX1_init_30 (by decide) ?_
  obtain ⟨S6, eS6⟩ : ∃ z : XS, z = xset S5 1 it 8 0 := ⟨_, rfl⟩
  refine pX1_27 (i := it) hx hb hts hown hK hI hit eS6 dX1_init_31 (fun H locs hI => ?_)
  refine lv_aload_n hx hb dX1_init_34 rfl (lv_at hl 0 rfl) ?_
  refine lv_bipush (v := 100) hx hb dX1_init_35 (by decide) ?_
  obtain ⟨S7, eS7⟩ : ∃ z : XS, z = xset S6 1 it 9 100 := ⟨_, rfl⟩
  refine pX1_30 (i := it) hx hb hts hown hK hI hit eS7 dX1_init_37 (fun H locs hI => ?_)
  refine lv_aload_n hx hb dX1_init_40 rfl (lv_at hl 0 rfl) ?_
  refine lv_dconst0 hx hb dX1_init_41 ?_
  obtain ⟨S8, eS8⟩ : ∃ z : XS, z = xkset S7 it ⟨FP.dconst0, nn_0⟩ := ⟨_, rfl⟩
  refine pX1_33 (x := ⟨FP.dconst0, nn_0⟩) (i := it) hx hb hts hown hK hI hit eS8 dX1_init_42 (fun H locs hI => ?_)
  refine lv_aload_n hx hb dX1_init_45 rfl (lv_at hl 0 rfl) ?_
  refine lv_iconst (v := 0) hx hb dX1_init_46 (by decide) ?_
  obtain ⟨S9, eS9⟩ : ∃ z : XS, z = xset S8 1 it 11 0 := ⟨_, rfl⟩
  refine pX1_37 (i := it) hx hb hts hown hK hI hit eS9 dX1_init_47 (fun H locs hI => ?_)
  refine lv_aload_n hx hb dX1_init_50 rfl (lv_at hl 0 rfl) ?_
  refine lv_iconst (v := 0) hx hb dX1_init_51 (by decide) ?_
  obtain ⟨S10, eS10⟩ : ∃ z : XS, z = xset S9 1 it 12 0 := ⟨_, rfl⟩
  refine pX1_40 (i := it) hx hb hts hown hK hI hit eS10 dX1_init_52 (fun H locs hI => ?_)
  refine lv_aload_n hx hb dX1_init_55 rfl (lv_at hl 0 rfl) ?_
  refine lv_iconst (v := 0) hx hb dX1_init_56 (by decide) ?_
  obtain ⟨S11, eS11⟩ : ∃ z : XS, z = xset S10 1 it 13 0 := ⟨_, rfl⟩
  refine pX1_43 (i := it) hx hb hts hown hK hI hit eS11 dX1_init_57 (fun H locs hI => ?_)
  refine lv_aload_n hx hb dX1_init_60 rfl (lv_at hl 0 rfl) ?_
  refine lv_sipush (v := -1000) hx hb dX1_init_61 (by decide) ?_
  obtain ⟨S12, eS12⟩ : ∃ z : XS, z = xset S11 1 it 14 (-1000) := ⟨_, rfl⟩
  refine pX1_46 (i := it) hx hb hts hown hK hI hit eS12 dX1_init_64 (fun H locs hI => ?_)
  refine lv_aload_n hx hb dX1_init_67 rfl (lv_at hl 0 rfl) ?_
  refine lv_sipush (v := -1000) hx hb dX1_init_68 (by decide) ?_
  obtain ⟨S13, eS13⟩ : ∃ z : XS, z = xset S12 1 it 15 (-1000) := ⟨_, rfl⟩
  refine pX1_49 (i := it) hx hb hts hown hK hI hit eS13 dX1_init_71 (fun H locs hI => ?_)
  refine lv_aload_n hx hb dX1_init_74 rfl (lv_at hl 0 rfl) ?_
  refine lv_iload_n hx hb dX1_init_75 rfl (lv_at hl 1 rfl) ?_
  obtain ⟨S14, eS14⟩ : ∃ z : XS, z = xset S13 1 it 0 ui := ⟨_, rfl⟩
  refine pX1_52 (i := it) hx hb hts hown hK hI hit hnm eS14 dX1_init_76 (fun H locs hI => ?_)
  refine lv_aload_n hx hb dX1_init_79 rfl (lv_at hl 0 rfl) ?_
  refine lv_iload_n hx hb dX1_init_80 rfl (lv_at hl 2 rfl) ?_
  obtain ⟨S15, eS15⟩ : ∃ z : XS, z = xset S14 1 it 1 uf := ⟨_, rfl⟩
  refine pX1_55 (i := it) hx hb hts hown hK hI hit hnm eS15 dX1_init_81 (fun H locs hI => ?_)
  refine lv_aload_n hx hb dX1_init_84 rfl (lv_at hl 0 rfl) ?_
  refine lv_iload_n hx hb dX1_init_85 rfl (lv_at hl 3 rfl) ?_
  obtain ⟨S16, eS16⟩ : ∃ z : XS, z = xset S15 1 it 2 ud := ⟨_, rfl⟩
  refine pX1_58 (i := it) hx hb hts hown hK hI hit hnm eS16 dX1_init_86 (fun H locs hI => ?_)
  have HE : X_iPiece Z S it ui uf ud = S16 := by subst eS16 eS15 eS14 eS13 eS12 eS11 eS10 eS9 eS8 eS7 eS6 eS5 eS4 eS3 eS2 eS1; exact rfl
  exact rt_v hx hb hr hlocks hI hA hQ ⟨rfl, by rw [HE]⟩ (Nat.zero_le _) (Nat.zero_le _) dX1_init_89

def X_iVehicle (Z : XZ) (S : XS) (it : Nat) (ui : Int32) (uf : Int32) (ud : Int32) : XS :=
  let S1 := xset S 2 it 3 0
  let S2 := xset S1 2 it 4 0
  let S3 := xset S2 2 it 5 0
  let S4 := xset S3 2 it 6 (-1)
  let S5 := xcset S4 it 0
  let S6 := xset S5 2 it 0 ui
  let S7 := xset S6 2 it 1 uf
  let S8 := xset S7 2 it 2 ud
  S8
set_option maxHeartbeats 4000000 in
set_option maxRecDepth 100000 in
theorem cX_iVehicle (G : GX) (Z : XZ) (S : XS) (it : Nat) (ui : Int32) (uf : Int32) (ud : Int32) (hit : it < Z.O 2) : FC G yX2_init cX2_init 4 none ({ frames := 1, cells := 0, slots := 0, locals := 24 }) [.ref (Z.A 2 it), .int ui, .int uf, .int ud] (xW G.2.2.2 G.2.1 Z S) (p0 (xW G.2.2.2 G.2.1 Z (X_iVehicle Z S it ui uf ud))) := by
  refine FC.go (lv := [(0, .ref (Z.A 2 it)), (1, .int ui), (2, .int uf), (3, .int ud)]) (by decide) (Nat.le_of_ble_eq_true rfl) rfl (fun p e s m args below meth c A H locs ls Q hx hb hr hts hown hml hlocks hnm hK hE hI hA hl hQ => ?_)
  have hown : s.vm.findClass RX2 = some m.cls := hown
  refine lv_aload_n hx hb dX2_init_0 rfl (lv_at hl 0 rfl) ?_
  refine W.objInit hx hb hown (hts _ q439) (hts _ q26) (hts _ q27) rfl (by rw [hml]; exact hl.1) rfl dX2_init_1 (Nat.le_of_ble_eq_true rfl) (Nat.le_of_ble_eq_true rfl) ?_
  refine lv_aload_n hx hb dX2_init_4 rfl (lv_at hl 0 rfl) ?_
  refine lv_iconst (v := 0) hx hb dX2_init_5 (by decide) ?_
  obtain ⟨S1, eS1⟩ : ∃ z : XS, z = xset S 2 it 3 0 := ⟨_, rfl⟩
  refine pX2_9 (i := it) hx hb hts hown hK hI hit eS1 dX2_init_6 (fun H locs hI => ?_)
  refine lv_aload_n hx hb dX2_init_9 rfl (lv_at hl 0 rfl) ?_
  refine lv_iconst (v := 0) hx hb dX2_init_10 (by decide) ?_
  obtain ⟨S2, eS2⟩ : ∃ z : XS, z = xset S1 2 it 4 0 := ⟨_, rfl⟩
  refine pX2_15 (i := it) hx hb hts hown hK hI hit eS2 dX2_init_11 (fun H locs hI => ?_)
  refine lv_aload_n hx hb dX2_init_14 rfl (lv_at hl 0 rfl) ?_
  refine lv_iconst (v := 0) hx hb dX2_init_15 (by decide) ?_
  obtain ⟨S3, eS3⟩ : ∃ z : XS, z = xset S2 2 it 5 0 := ⟨_, rfl⟩
  refine pX2_18 (i := it) hx hb hts hown hK hI hit (by decide) eS3 dX2_init_16 (fun H locs hI => ?_)
  refine lv_aload_n hx hb dX2_init_19 rfl (lv_at hl 0 rfl) ?_
  refine lv_iconst (v := (-1)) hx hb dX2_init_20 (by decide) ?_
  obtain ⟨S4, eS4⟩ : ∃ z : XS, z = xset S3 2 it 6 (-1) := ⟨_, rfl⟩
  refine pX2_22 (i := it) hx hb hts hown hK hI hit eS4 dX2_init_21 (fun H locs hI => ?_)
  refine lv_aload_n hx hb dX2_init_24 rfl (lv_at hl 0 rfl) ?_
  refine lv_null hx hb dX2_init_25 ?_
  obtain ⟨S5, eS5⟩ : ∃ z : XS, z = xcset S4 it 0 := ⟨_, rfl⟩
  refine pX2_25 (i := it) hx hb hts hown hK hI hit rfl eS5 dX2_init_26 (fun H locs hI => ?_)
  refine lv_aload_n hx hb dX2_init_29 rfl (lv_at hl 0 rfl) ?_
  refine lv_iload_n hx hb dX2_init_30 rfl (lv_at hl 1 rfl) ?_
  obtain ⟨S6, eS6⟩ : ∃ z : XS, z = xset S5 2 it 0 ui := ⟨_, rfl⟩
  refine pX2_29 (i := it) hx hb hts hown hK hI hit hnm eS6 dX2_init_31 (fun H locs hI => ?_)
  refine lv_aload_n hx hb dX2_init_34 rfl (lv_at hl 0 rfl) ?_
  refine lv_iload_n hx hb dX2_init_35 rfl (lv_at hl 2 rfl) ?_
  obtain ⟨S7, eS7⟩ : ∃ z : XS, z = xset S6 2 it 1 uf := ⟨_, rfl⟩
  refine pX2_32 (i := it) hx hb hts hown hK hI hit hnm eS7 dX2_init_36 (fun H locs hI => ?_)
  refine lv_aload_n hx hb dX2_init_39 rfl (lv_at hl 0 rfl) ?_
  refine lv_iload_n hx hb dX2_init_40 rfl (lv_at hl 3 rfl) ?_
  obtain ⟨S8, eS8⟩ : ∃ z : XS, z = xset S7 2 it 2 ud := ⟨_, rfl⟩
  refine pX2_35 (i := it) hx hb hts hown hK hI hit hnm eS8 dX2_init_41 (fun H locs hI => ?_)
  have HE : X_iVehicle Z S it ui uf ud = S8 := by subst eS8 eS7 eS6 eS5 eS4 eS3 eS2 eS1; exact rfl
  exact rt_v hx hb hr hlocks hI hA hQ ⟨rfl, by rw [HE]⟩ (Nat.zero_le _) (Nat.zero_le _) dX2_init_44

/-! ===== a new object in the class' world ===== -/
def zO (Z : XZ) (k h : Nat) : XZ := (fun k' i' => if k' = k ∧ i' = Z.O k then h else Z.A k' i', fun k' => if k' = k then Z.O k + 1 else Z.O k', Z.N, Z.P)
def xz (S : XS) (k i : Nat) : XS := (fun k' i' f' => if k' = k ∧ i' = i then 0 else S.1 k' i' f', fun j => if k = 1 ∧ j = i then ⟨FP.dconst0, nn_0⟩ else S.2.1 j, fun j => if k = 2 ∧ j = i then 0 else S.2.2 j)
theorem zO_A {Z : XZ} {k h k' i' : Nat} (q : ¬ (k' = k ∧ i' = Z.O k)) : (zO Z k h).A k' i' = Z.A k' i' := if_neg q
theorem zO_As {Z : XZ} {k h : Nat} : (zO Z k h).A k (Z.O k) = h := if_pos ⟨rfl, rfl⟩
theorem zO_O {Z : XZ} {k h k' : Nat} (q : k' ≠ k) : (zO Z k h).O k' = Z.O k' := if_neg q
theorem zO_Os {Z : XZ} {k h : Nat} : (zO Z k h).O k = Z.O k + 1 := if_pos rfl
theorem xz_n {S : XS} {k i k' i' : Nat} (q : ¬ (k' = k ∧ i' = i)) : (xz S k i).1 k' i' = S.1 k' i' := funext fun _ => if_neg q
theorem xz_s {S : XS} {k i : Nat} : (xz S k i).1 k i = fun _ => 0 := funext fun _ => if_pos ⟨rfl, rfl⟩
theorem oV_zO {Z : XZ} {k h c : Nat} (q : k = 3 → c ≤ Z.O 3) : oV ((zO Z k h).A 3) c = oV (Z.A 3) c := by
  unfold oV
  by_cases c0 : c = 0
  · rw [if_pos c0, if_pos c0]
  · rw [if_neg c0, if_neg c0, zO_A (fun z => by obtain ⟨z1, z2⟩ := z; have := q z1.symm; rw [← z1] at z2; omega)]
/-- one object more: the world with it -/
theorem zNew {T : Nat → ClassId} {z : Nat} {Z : XZ} {S : XS} {k h : Nat} {e : va_E} (hk : k = 1 ∨ k = 2 ∨ k = 3) (hL : ∀ i j, i < 3 → j < Z.N i → j < Z.O (i + 1)) (hC : CW Z S) (he : e = if k = 1 then .inr (2, xF1 (fun _ => 0) FP.dconst0) else if k = 2 then .inr (3, xF2 Z (fun _ => 0) 0) else .inr (1, xF3 (fun _ => 0))) : fU (xW T z Z S) k (Z.O k) (h, e) = xW T z (zO Z k h) (xz S k (Z.O k)) := by
  funext k' i'
  by_cases q : k' = k ∧ i' = Z.O k
  · obtain ⟨rfl, rfl⟩ := q
    rw [fU_same]
    rcases hk with rfl | rfl | rfl
    · have e5 : (xz S 1 (Z.O 1)).2.1 (Z.O 1) = ⟨FP.dconst0, nn_0⟩ := if_pos ⟨rfl, rfl⟩
      rw [xW1 (by rw [zO_Os]; omega), zO_As, xz_s, he, e5]
      exact congrArg (fun e => some (h, e)) (if_pos rfl)
    · have e5 : (xz S 2 (Z.O 2)).2.2 (Z.O 2) = 0 := if_pos ⟨rfl, rfl⟩
      rw [xW2 (by rw [zO_Os]; omega), zO_As, xz_s, he, e5]
      exact congrArg (fun e => some (h, e)) ((if_neg (by decide)).trans (if_pos rfl))
    · rw [xW3 (by rw [zO_Os]; omega), zO_As, xz_s, he, if_neg (by decide), if_neg (by decide)]
  · rw [fU_ne q]
    have hA : ∀ a b, a ≠ 1 → a ≠ 2 → a ≠ 3 → (zO Z k h).A a b = Z.A a b := fun a b a1 a2 a3 => zO_A (fun w => by omega)
    have hcell : ∀ a, (a = 1 ∨ a = 2 ∨ a = 3) → k' = a → ((i' < (zO Z k h).O a) ↔ i' < Z.O a) := fun a ha e1 => by
      by_cases e2 : a = k
      · subst e2
        rw [zO_Os]
        have : i' ≠ Z.O a := fun w => q ⟨e1, w⟩
        omega
      · rw [zO_O e2]
    unfold xW
    split
    · simp only [xF0, hA 6 _ (by decide) (by decide) (by decide), hA 5 _ (by decide) (by decide) (by decide), hA 0 _ (by decide) (by decide) (by decide), xz_n q]
    · have := hcell 1 (by omega) rfl
      simp only [this, zO_A q, xz_n q]
      have e5 : (xz S k (Z.O k)).2.1 i' = S.2.1 i' := if_neg fun w => q ⟨w.1.symm, w.2⟩
      rw [e5]
    · have := hcell 2 (by omega) rfl
      have e5 : (xz S k (Z.O k)).2.2 i' = S.2.2 i' := if_neg fun w => q ⟨w.1.symm, w.2⟩
      simp only [this, zO_A q, xz_n q, e5, xF2, oV_zO (fun _ => hC i')]
    · have := hcell 3 (by omega) rfl
      simp only [this, zO_A q, xz_n q]
    · simp only [hA 5 _ (by decide) (by decide) (by decide), xz_n q]
    · simp only [xF6, hA 6 _ (by decide) (by decide) (by decide), hA 7 _ (by decide) (by decide) (by decide), xz_n q]
      rfl
    · rename_i i9
      have e5 : i' < 3 → xEl (zO Z k h) i' = xEl Z i' := fun hi => by
        funext j
        unfold xEl
        show ite (j < Z.N i') _ _ = _
        by_cases hj : j < Z.N i'
        · rw [if_pos hj, if_pos hj, zO_A (fun w => by obtain ⟨w1, w2⟩ := w; have := hL i' j hi hj; rw [w1] at this; omega)]
        · rw [if_neg hj, if_neg hj]
      by_cases hi : i' < 3 ∧ ¬ Z.P i' = 0
      · have hi2 : i' < 3 ∧ ¬ (zO Z k h).P i' = 0 := hi
        rw [if_pos hi, if_pos hi2, hA 7 _ (by decide) (by decide) (by decide), e5 hi.1]
        rfl
      · have hi2 : ¬ (i' < 3 ∧ ¬ (zO Z k h).P i' = 0) := hi
        rw [if_neg hi, if_neg hi2]
    · rfl
