theorem CW_eq {Z : XZ} {S S1 : XS} (e : S1.2.2 = S.2.2) (h : CW Z S) : CW Z S1 := fun j => by rw [e]; exact h j
theorem CW_ite {c : Prop} [Decidable c] {Z : XZ} {a b : XS} (ha : CW Z a) (hb : CW Z b) : CW Z (if c then a else b) := by
  split
  · exact ha
  · exact hb
theorem X_letOff_c {Z : XZ} {S : XS} {i j : Nat} : (X_letOff Z S i j).2.2 = S.2.2 := by
  unfold X_letOff
  dsimp only
  (repeat' split) <;> rfl
theorem X_takeOn_c {Z : XZ} {S : XS} {i j : Nat} : (X_takeOn Z S i j).2.2 = S.2.2 := by
  unfold X_takeOn
  dsimp only
  (repeat' split) <;> rfl
theorem X_noteComing_c {Z : XZ} {S : XS} {i : Nat} {b k : Int32} : (X_noteComing Z S i b k).2.2 = S.2.2 := by
  unfold X_noteComing
  dsimp only
  (repeat' split) <;> rfl
theorem X_breakUp_c {Z : XZ} {S : XS} {i : Nat} : (X_breakUp Z S i).2.2 = S.2.2 := by
  unfold X_breakUp
  dsimp only
  (repeat' split) <;> rfl
theorem X_freeze_c {Z : XZ} {S : XS} {i : Nat} {d : Int32} : (X_freeze Z S i d).2.2 = S.2.2 := by
  unfold X_freeze
  dsimp only
  (repeat' split) <;> rfl
theorem X_thaw_c {Z : XZ} {S : XS} {i : Nat} {d : Int32} : (X_thaw Z S i d).2.2 = S.2.2 := by
  unfold X_thaw
  dsimp only
  (repeat' split) <;> rfl
theorem CW_unload {Z : XZ} {S : XS} {j : Nat} (h : CW Z S) : CW Z (X_unload Z S j) := by
  have h1 : CW Z (xcset S j 0) := CW_c rfl (Nat.zero_le _) h
  unfold X_unload
  dsimp only
  (repeat' split) <;> exact h1
def X_stopAtEnd (Z : XZ) (S : XS) (jv : Nat) : XS :=
  let S1 := if (S.1 2 jv 5) = 0 then (if (S.1 2 jv 5) = 0 then (if (S.1 2 jv 4) = 0 then (X_unload Z (xset S 2 jv 3 0) jv) else S) else S) else (if (S.1 2 jv 4) = (nI (Z.N 0)) then (X_unload Z (xset S 2 jv 3 3) jv) else (if (S.1 2 jv 5) = 0 then (if (S.1 2 jv 4) = 0 then (X_unload Z (xset S 2 jv 3 0) jv) else S) else S))
  S1
set_option maxHeartbeats 4000000 in
set_option maxRecDepth 100000 in
theorem cX_stopAtEnd (G : GX) (Z : XZ) (S : XS) (jv : Nat) (hjv : jv < Z.O 2) (hC : CW Z S) : FC G yX3_stopAtEnd cX3_stopAtEnd 2 none ({ frames := 1, cells := 0, slots := 0, locals := 22 }) [.ref (Z.A 0 0), .ref (Z.A 2 jv)] (xW G.2.2.2 G.2.1 Z S) (p0 (xW G.2.2.2 G.2.1 Z (X_stopAtEnd Z S jv))) := by
  refine FC.go (lv := [(0, .ref (Z.A 0 0)), (1, .ref (Z.A 2 jv))]) (by decide) (Nat.le_of_ble_eq_true rfl) rfl (fun p e s m args below meth c A H locs ls Q hx hb hr hts hown hml hlocks hnm hK hE hI hA hl hQ => ?_)
  have hown : s.vm.findClass RX3 = some m.cls := hown
  refine lv_aload_n hx hb dX3_stopAtEnd_0 rfl (lv_at hl 1 rfl) ?_
  refine gX3_144 (i := jv) hx hb hts hown hK hI hjv dX3_stopAtEnd_1 ?_
  have hJ3 : ∀ (S1 : XS) (H : Heap) (locs : List Loc), (S1 = if (S.1 2 jv 5) = 0 then (if (S.1 2 jv 5) = 0 then (if (S.1 2 jv 4) = 0 then (X_unload Z (xset S 2 jv 3 0) jv) else S) else S) else (if (S.1 2 jv 4) = (nI (Z.N 0)) then (X_unload Z (xset S 2 jv 3 3) jv) else (if (S.1 2 jv 5) = 0 then (if (S.1 2 jv 4) = 0 then (X_unload Z (xset S 2 jv 3 0) jv) else S) else S))) → (fI G.2.2.1 A s.heap (xW G.2.2.2 G.2.1 Z S1) H locs) → (CW Z S1) → W p G.1 e ({ frames := 1, cells := 0, slots := 0, locals := 22 }) s m args below meth c H locs 0 0 Q (F0 m 60 ls []) := by
    intro S1 H locs eS1 hI hf2
    have HE : X_stopAtEnd Z S jv = S1 := by subst eS1; exact rfl
    exact rt_v hx hb hr hlocks hI hA hQ ⟨rfl, by rw [HE]⟩ (Nat.zero_le _) (Nat.zero_le _) dX3_stopAtEnd_60
  refine lv_if_eq (tgt := 36) hx hb dX3_stopAtEnd_4 (by decide) (fun c4 => ?_) (fun c4 => ?_)
  · refine lv_aload_n hx hb dX3_stopAtEnd_36 rfl (lv_at hl 1 rfl) ?_
    refine gX3_144 (i := jv) hx hb hts hown hK hI hjv dX3_stopAtEnd_37 ?_
    refine lv_if_ne (tgt := 60) hx hb dX3_stopAtEnd_40 (by decide) (fun c5 => ?_) (fun c5 => ?_)
    · exact hJ3 S _ _ (by exact ((if_pos c4).trans (if_neg c5)).symm) hI hC
    · refine lv_aload_n hx hb dX3_stopAtEnd_43 rfl (lv_at hl 1 rfl) ?_
      refine gX3_193 (i := jv) hx hb hts hown hK hI hjv dX3_stopAtEnd_44 ?_
      refine lv_if_ne (tgt := 60) hx hb dX3_stopAtEnd_47 (by decide) (fun c6 => ?_) (fun c6 => ?_)
      · exact hJ3 S _ _ (by exact ((if_pos c4).trans ((if_pos c5).trans (if_neg c6))).symm) hI hC
      · refine lv_aload_n hx hb dX3_stopAtEnd_50 rfl (lv_at hl 1 rfl) ?_
        refine lv_iconst (v := 0) hx hb dX3_stopAtEnd_51 (by decide) ?_
        obtain ⟨S7, eS7⟩ : ∃ z : XS, z = xset S 2 jv 3 0 := ⟨_, rfl⟩
        refine pX3_125 (i := jv) hx hb hts hown hK hI hjv eS7 dX3_stopAtEnd_52 (fun H locs hI => ?_)
        refine lv_aload_n hx hb dX3_stopAtEnd_55 rfl (lv_at hl 0 rfl) ?_
        refine lv_aload_n hx hb dX3_stopAtEnd_56 rfl (lv_at hl 1 rfl) ?_
        obtain ⟨S8, eS8⟩ : ∃ z : XS, z = X_unload Z S7 jv := ⟨_, rfl⟩
        refine cV0 (rest := []) hx hb hml hts hown hK hE hI (cX_unload G Z S7 jv hjv (CW_set eS7 hC)) kX3_266 ⟨Nat.le_of_ble_eq_true rfl, Nat.le_of_ble_eq_true rfl⟩ rfl rfl (kk := 0) (ii := 0) (xW0 (by decide)) rfl rfl hl.1 rfl (Nat.le_of_ble_eq_true rfl) dX3_stopAtEnd_57 ⟨Nat.zero_le _, Nat.zero_le _⟩ (fun H locs hI => ?_)
        rw [← eS8] at hI
        exact hJ3 S8 _ _ (by subst eS8 eS7; exact ((if_pos c4).trans ((if_pos c5).trans (if_pos c6))).symm) hI (eS8 ▸ (CW_unload (CW_set eS7 hC)))
  · refine lv_aload_n hx hb dX3_stopAtEnd_7 rfl (lv_at hl 1 rfl) ?_
    refine gX3_193 (i := jv) hx hb hts hown hK hI hjv dX3_stopAtEnd_8 ?_
    refine lv_aload_n hx hb dX3_stopAtEnd_11 rfl (lv_at hl 0 rfl) ?_
    refine gX3_10 (i := 0) hx hb hts hown hK hI (by decide) dX3_stopAtEnd_12 ?_
    refine cFv (rest := [.int (S.1 2 jv 4)]) hx hb hml hts hown hK hE hI (cL_size G Z S 0 (by decide)) kF_46 ⟨Nat.le_of_ble_eq_true rfl, Nat.le_of_ble_eq_true rfl⟩ rfl rfl (kk := 6) (ii := 0) (xW6 (by decide)) rfl rfl hl.1 rfl (Nat.le_of_ble_eq_true rfl) dX3_stopAtEnd_15 ⟨Nat.zero_le _, Nat.zero_le _⟩ (fun H locs hI => ?_)
    refine lv_icmp_ne (tgt := 36) hx hb dX3_stopAtEnd_20 (by decide) (fun c9 => ?_) (fun c9 => ?_)
    · refine lv_aload_n hx hb dX3_stopAtEnd_36 rfl (lv_at hl 1 rfl) ?_
      refine gX3_144 (i := jv) hx hb hts hown hK hI hjv dX3_stopAtEnd_37 ?_
      refine lv_if_ne (tgt := 60) hx hb dX3_stopAtEnd_40 (by decide) (fun c10 => ?_) (fun c10 => ?_)
      · exact hJ3 S _ _ (by exact ((if_neg c4).trans ((if_neg c9).trans (if_neg c10))).symm) hI hC
      · refine lv_aload_n hx hb dX3_stopAtEnd_43 rfl (lv_at hl 1 rfl) ?_
        refine gX3_193 (i := jv) hx hb hts hown hK hI hjv dX3_stopAtEnd_44 ?_
        refine lv_if_ne (tgt := 60) hx hb dX3_stopAtEnd_47 (by decide) (fun c11 => ?_) (fun c11 => ?_)
        · exact hJ3 S _ _ (by exact ((if_neg c4).trans ((if_neg c9).trans ((if_pos c10).trans (if_neg c11)))).symm) hI hC
        · refine lv_aload_n hx hb dX3_stopAtEnd_50 rfl (lv_at hl 1 rfl) ?_
          refine lv_iconst (v := 0) hx hb dX3_stopAtEnd_51 (by decide) ?_
          obtain ⟨S12, eS12⟩ : ∃ z : XS, z = xset S 2 jv 3 0 := ⟨_, rfl⟩
          refine pX3_125 (i := jv) hx hb hts hown hK hI hjv eS12 dX3_stopAtEnd_52 (fun H locs hI => ?_)
          refine lv_aload_n hx hb dX3_stopAtEnd_55 rfl (lv_at hl 0 rfl) ?_
          refine lv_aload_n hx hb dX3_stopAtEnd_56 rfl (lv_at hl 1 rfl) ?_
          obtain ⟨S13, eS13⟩ : ∃ z : XS, z = X_unload Z S12 jv := ⟨_, rfl⟩
          refine cV0 (rest := []) hx hb hml hts hown hK hE hI (cX_unload G Z S12 jv hjv (CW_set eS12 hC)) kX3_266 ⟨Nat.le_of_ble_eq_true rfl, Nat.le_of_ble_eq_true rfl⟩ rfl rfl (kk := 0) (ii := 0) (xW0 (by decide)) rfl rfl hl.1 rfl (Nat.le_of_ble_eq_true rfl) dX3_stopAtEnd_57 ⟨Nat.zero_le _, Nat.zero_le _⟩ (fun H locs hI => ?_)
          rw [← eS13] at hI
          exact hJ3 S13 _ _ (by subst eS13 eS12; exact ((if_neg c4).trans ((if_neg c9).trans ((if_pos c10).trans (if_pos c11)))).symm) hI (eS13 ▸ (CW_unload (CW_set eS12 hC)))
    · refine lv_aload_n hx hb dX3_stopAtEnd_23 rfl (lv_at hl 1 rfl) ?_
      refine lv_iconst (v := 3) hx hb dX3_stopAtEnd_24 (by decide) ?_
      obtain ⟨S14, eS14⟩ : ∃ z : XS, z = xset S 2 jv 3 3 := ⟨_, rfl⟩
      refine pX3_125 (i := jv) hx hb hts hown hK hI hjv eS14 dX3_stopAtEnd_25 (fun H locs hI => ?_)
      refine lv_aload_n hx hb dX3_stopAtEnd_28 rfl (lv_at hl 0 rfl) ?_
      refine lv_aload_n hx hb dX3_stopAtEnd_29 rfl (lv_at hl 1 rfl) ?_
      obtain ⟨S15, eS15⟩ : ∃ z : XS, z = X_unload Z S14 jv := ⟨_, rfl⟩
      refine cV0 (rest := []) hx hb hml hts hown hK hE hI (cX_unload G Z S14 jv hjv (CW_set eS14 hC)) kX3_266 ⟨Nat.le_of_ble_eq_true rfl, Nat.le_of_ble_eq_true rfl⟩ rfl rfl (kk := 0) (ii := 0) (xW0 (by decide)) rfl rfl hl.1 rfl (Nat.le_of_ble_eq_true rfl) dX3_stopAtEnd_30 ⟨Nat.zero_le _, Nat.zero_le _⟩ (fun H locs hI => ?_)
      rw [← eS15] at hI
      refine lv_goto (tgt := 60) hx hb dX3_stopAtEnd_33 (by decide) ?_
      exact hJ3 S15 _ _ (by subst eS15 eS14; exact ((if_neg c4).trans (if_pos c9)).symm) hI (eS15 ▸ (CW_unload (CW_set eS14 hC)))

theorem CW_stopAtEnd {Z : XZ} {S : XS} {j : Nat} (h : CW Z S) : CW Z (X_stopAtEnd Z S j) := by
  unfold X_stopAtEnd
  dsimp only
  (repeat' split) <;> first | with_reducible exact h | exact CW_unload (CW_set rfl h)
def X_leave (Z : XZ) (S : XS) (jv : Nat) : XS :=
  let S1 := if (S.1 2 jv 4) < 0 then S else (if (nI (Z.N 0)) ≤ (S.1 2 jv 4) then S else (X_letOff Z S ((S.1 2 jv 4).toNatClampNeg) jv))
  let S4 := if (S1.1 2 jv 5) = 0 then S1 else (xset S1 2 jv 4 ((S1.1 2 jv 4) + 1))
  let S7 := xset S4 2 jv 3 2
  let S8 := X_stopAtEnd Z S7 jv
  S8
set_option maxHeartbeats 4000000 in
set_option maxRecDepth 100000 in
theorem cX_leave (G : GX) (Z : XZ) (S : XS) (jv : Nat) (hjv : jv < Z.O 2) (hWZ : WZ Z) (hC : CW Z S) : FC G yX3_leave cX3_leave 2 none ({ frames := 3, cells := 0, slots := 0, locals := 64 }) [.ref (Z.A 0 0), .ref (Z.A 2 jv)] (xW G.2.2.2 G.2.1 Z S) (p0 (xW G.2.2.2 G.2.1 Z (X_leave Z S jv))) := by
  refine FC.go (lv := [(0, .ref (Z.A 0 0)), (1, .ref (Z.A 2 jv))]) (by decide) (Nat.le_of_ble_eq_true rfl) rfl (fun p e s m args below meth c A H locs ls Q hx hb hr hts hown hml hlocks hnm hK hE hI hA hl hQ => ?_)
  have hown : s.vm.findClass RX3 = some m.cls := hown
  refine lv_aload_n hx hb dX3_leave_0 rfl (lv_at hl 1 rfl) ?_
  refine gX3_193 (i := jv) hx hb hts hown hK hI hjv dX3_leave_1 ?_
  have hJ3 : ∀ (S1 : XS) (H : Heap) (locs : List Loc), (S1 = if (S.1 2 jv 4) < 0 then S else (if (nI (Z.N 0)) ≤ (S.1 2 jv 4) then S else (X_letOff Z S ((S.1 2 jv 4).toNatClampNeg) jv))) → (fI G.2.2.1 A s.heap (xW G.2.2.2 G.2.1 Z S1) H locs) → (CW Z S1) → W p G.1 e ({ frames := 3, cells := 0, slots := 0, locals := 64 }) s m args below meth c H locs 0 0 Q (F0 m 43 ls []) := by
    intro S1 H locs eS1 hI hf2
    refine lv_aload_n hx hb dX3_leave_43 rfl (lv_at hl 1 rfl) ?_
    refine gX3_144 (i := jv) hx hb hts hown hK hI hjv dX3_leave_44 ?_
    have hJ6 : ∀ (S4 : XS) (H : Heap) (locs : List Loc), (S4 = if (S1.1 2 jv 5) = 0 then S1 else (xset S1 2 jv 4 ((S1.1 2 jv 4) + 1))) → (fI G.2.2.1 A s.heap (xW G.2.2.2 G.2.1 Z S4) H locs) → (CW Z S4) → W p G.1 e ({ frames := 3, cells := 0, slots := 0, locals := 64 }) s m args below meth c H locs 0 0 Q (F0 m 60 ls []) := by
      intro S4 H locs eS4 hI hf5
      refine lv_aload_n hx hb dX3_leave_60 rfl (lv_at hl 1 rfl) ?_
      refine lv_iconst (v := 2) hx hb dX3_leave_61 (by decide) ?_
      obtain ⟨S7, eS7⟩ : ∃ z : XS, z = xset S4 2 jv 3 2 := ⟨_, rfl⟩
      refine pX3_125 (i := jv) hx hb hts hown hK hI hjv eS7 dX3_leave_62 (fun H locs hI => ?_)
      refine lv_aload_n hx hb dX3_leave_65 rfl (lv_at hl 0 rfl) ?_
      refine lv_aload_n hx hb dX3_leave_66 rfl (lv_at hl 1 rfl) ?_
      obtain ⟨S8, eS8⟩ : ∃ z : XS, z = X_stopAtEnd Z S7 jv := ⟨_, rfl⟩
      refine cV0 (rest := []) hx hb hml hts hown hK hE hI (cX_stopAtEnd G Z S7 jv hjv (CW_set eS7 hf5)) kX3_150 ⟨Nat.le_of_ble_eq_true rfl, Nat.le_of_ble_eq_true rfl⟩ rfl rfl (kk := 0) (ii := 0) (xW0 (by decide)) rfl rfl hl.1 rfl (Nat.le_of_ble_eq_true rfl) dX3_leave_67 ⟨Nat.zero_le _, Nat.zero_le _⟩ (fun H locs hI => ?_)
      rw [← eS8] at hI
      have HE : X_leave Z S jv = S8 := by subst eS8 eS7 eS4 eS1; exact rfl
      exact rt_v hx hb hr hlocks hI hA hQ ⟨rfl, by rw [HE]⟩ (Nat.zero_le _) (Nat.zero_le _) dX3_leave_70
    refine lv_if_eq (tgt := 60) hx hb dX3_leave_47 (by decide) (fun c9 => ?_) (fun c9 => ?_)
    · exact hJ6 S1 _ _ (by exact (if_pos c9).symm) hI hf2
    · refine lv_aload_n hx hb dX3_leave_50 rfl (lv_at hl 1 rfl) ?_
      refine lv_dup hx hb dX3_leave_51 rfl ?_
      refine gX3_193 (i := jv) hx hb hts hown hK hI hjv dX3_leave_52 ?_
      refine lv_iconst (v := 1) hx hb dX3_leave_55 (by decide) ?_
      refine lv_iadd hx hb dX3_leave_56 ?_
      obtain ⟨S10, eS10⟩ : ∃ z : XS, z = xset S1 2 jv 4 ((S1.1 2 jv 4) + 1) := ⟨_, rfl⟩
      refine pX3_193 (i := jv) hx hb hts hown hK hI hjv eS10 dX3_leave_57 (fun H locs hI => ?_)
      exact hJ6 S10 _ _ (by subst eS10; exact (if_neg c9).symm) hI (CW_set eS10 hf2)
  refine lv_if_lt (tgt := 43) hx hb dX3_leave_4 (by decide) (fun c11 => ?_) (fun c11 => ?_)
  · exact hJ3 S _ _ (by exact (if_pos c11).symm) hI hC
  · refine lv_aload_n hx hb dX3_leave_7 rfl (lv_at hl 1 rfl) ?_
    refine gX3_193 (i := jv) hx hb hts hown hK hI hjv dX3_leave_8 ?_
    refine lv_aload_n hx hb dX3_leave_11 rfl (lv_at hl 0 rfl) ?_
    refine gX3_10 (i := 0) hx hb hts hown hK hI (by decide) dX3_leave_12 ?_
    refine cFv (rest := [.int (S.1 2 jv 4)]) hx hb hml hts hown hK hE hI (cL_size G Z S 0 (by decide)) kF_46 ⟨Nat.le_of_ble_eq_true rfl, Nat.le_of_ble_eq_true rfl⟩ rfl rfl (kk := 6) (ii := 0) (xW6 (by decide)) rfl rfl hl.1 rfl (Nat.le_of_ble_eq_true rfl) dX3_leave_15 ⟨Nat.zero_le _, Nat.zero_le _⟩ (fun H locs hI => ?_)
    refine lv_icmp_ge (tgt := 43) hx hb dX3_leave_20 (by decide) (fun c12 => ?_) (fun c12 => ?_)
    · exact hJ3 S _ _ (by exact ((if_neg c11).trans (if_pos c12)).symm) hI hC
    · refine lv_aload_n hx hb dX3_leave_23 rfl (lv_at hl 0 rfl) ?_
      refine gX3_10 (i := 0) hx hb hts hown hK hI (by decide) dX3_leave_24 ?_
      refine lv_aload_n hx hb dX3_leave_27 rfl (lv_at hl 1 rfl) ?_
      refine gX3_193 (i := jv) hx hb hts hown hK hI hjv dX3_leave_28 ?_
      refine cFv (rest := []) hx hb hml hts hown hK hE hI (cL_get G Z S 0 (S.1 2 jv 4) (by decide) (WZ.P hWZ 0 (by decide)) (lin_of hWZ.n0 c11 (i32_nle' c12))) kF_71 ⟨Nat.le_of_ble_eq_true rfl, Nat.le_of_ble_eq_true rfl⟩ rfl rfl (kk := 6) (ii := 0) (xW6 (by decide)) rfl rfl hl.1 rfl (Nat.le_of_ble_eq_true rfl) dX3_leave_31 ⟨Nat.zero_le _, Nat.zero_le _⟩ (fun H locs hI => ?_)
      refine va_castE hx hb hown (hts _ q215) (fx_recv hK hI.1 (xW1 (wz_lt0 hWZ (lin_of hWZ.n0 c11 (i32_nle' c12)))) (q := (RX1, TX1, 16)) rfl) dX3_leave_36 ?_
      refine lv_aload_n hx hb dX3_leave_39 rfl (lv_at hl 1 rfl) ?_
      obtain ⟨S13, eS13⟩ : ∃ z : XS, z = X_letOff Z S ((S.1 2 jv 4).toNatClampNeg) jv := ⟨_, rfl⟩
      refine cV0 (rest := []) hx hb hml hts hown hK hE hI (cX_letOff G Z S ((S.1 2 jv 4).toNatClampNeg) jv (wz_lt0 hWZ (lin_of hWZ.n0 c11 (i32_nle' c12))) hjv hC) kX3_263 ⟨Nat.le_of_ble_eq_true rfl, Nat.le_of_ble_eq_true rfl⟩ rfl rfl (kk := 1) (ii := (S.1 2 jv 4).toNatClampNeg) (xW1 (wz_lt0 hWZ (lin_of hWZ.n0 c11 (i32_nle' c12)))) rfl rfl hl.1 rfl (Nat.le_of_ble_eq_true rfl) dX3_leave_40 ⟨Nat.zero_le _, Nat.zero_le _⟩ (fun H locs hI => ?_)
      rw [← eS13] at hI
      exact hJ3 S13 _ _ (by subst eS13; exact ((if_neg c11).trans (if_neg c12)).symm) hI (eS13 ▸ (CW_eq X_letOff_c hC))

theorem CW_leave {Z : XZ} {S : XS} {j : Nat} (h : CW Z S) : CW Z (X_leave Z S j) := by
  unfold X_leave
  dsimp only
  exact CW_stopAtEnd (CW_set rfl (CW_ite (CW_ite h (CW_ite h (CW_eq X_letOff_c h))) (CW_set rfl (CW_ite h (CW_ite h (CW_eq X_letOff_c h))))))
def X_comeOnto (Z : XZ) (S : XS) (jv : Nat) : XS :=
  if (X_pieceAhead Z S jv) = 0 then
    S
  else
    let S2 := if (S.1 2 jv 5) = 0 then (xset S 2 jv 4 ((S.1 2 jv 4) - 1)) else S
    let S5 := X_noteComing Z S2 (X_pieceAhead Z S jv - 1) (S2.1 2 jv 5) (S2.1 0 0 6)
    let S6 := if ((S5.1 1 (X_pieceAhead Z S jv - 1) 13) + (X_weight Z S5 jv)) ≤ (X_bearsAs Z S5 (X_pieceAhead Z S jv - 1) 0) then (X_takeOn Z (xset (xset S5 2 jv 3 1) 2 jv 6 (((xset S5 2 jv 3 1).1 0 0 6) + (X_minutesOf Z (xset S5 2 jv 3 1) (X_pieceAhead Z S jv - 1) jv))) (X_pieceAhead Z S jv - 1) jv) else (X_breakUp Z (xset S5 2 jv 3 4) (X_pieceAhead Z S jv - 1))
    S6
set_option maxHeartbeats 4000000 in
set_option maxRecDepth 100000 in
theorem cX_comeOnto (G : GX) (Z : XZ) (S : XS) (jv : Nat) (hjv : jv < Z.O 2) (hWZ : WZ Z) (hC : CW Z S) : FC G yX3_comeOnto cX3_comeOnto 3 none ({ frames := 4, cells := 0, slots := 0, locals := 86 }) [.ref (Z.A 0 0), .ref (Z.A 2 jv)] (xW G.2.2.2 G.2.1 Z S) (p0 (xW G.2.2.2 G.2.1 Z (X_comeOnto Z S jv))) := by
  refine FC.go (lv := [(0, .ref (Z.A 0 0)), (1, .ref (Z.A 2 jv))]) (by decide) (Nat.le_of_ble_eq_true rfl) rfl (fun p e s m args below meth c A H locs ls Q hx hb hr hts hown hml hlocks hnm hK hE hI hA hl hQ => ?_)
  have hown : s.vm.findClass RX3 = some m.cls := hown
  refine lv_aload_n hx hb dX3_comeOnto_0 rfl (lv_at hl 0 rfl) ?_
  refine lv_aload_n hx hb dX3_comeOnto_1 rfl (lv_at hl 1 rfl) ?_
  refine cVv (rest := []) hx hb hml hts hown hK hE hI (cX_pieceAhead G Z S jv hjv hWZ) kX3_269 ⟨Nat.le_of_ble_eq_true rfl, Nat.le_of_ble_eq_true rfl⟩ rfl rfl (kk := 0) (ii := 0) (xW0 (by decide)) rfl rfl hl.1 rfl (Nat.le_of_ble_eq_true rfl) dX3_comeOnto_2 ⟨Nat.zero_le _, Nat.zero_le _⟩ (fun H locs hI => ?_)
  refine lv_astore_nR (lv' := [(2, (oV (Z.A 1) (X_pieceAhead Z S jv))), (0, .ref (Z.A 0 0)), (1, .ref (Z.A 2 jv))]) hx hb dX3_comeOnto_5 rfl hl (by decide) rfl (fun ls hl => ?_)
  refine lv_aload_nR hx hb dX3_comeOnto_6 rfl (lv_at hl 0 rfl) ?_
  refine xb_ifnonnull (tgt := 11) hx hb dX3_comeOnto_7 (by decide) (fun c1 => ?_) (fun c1 => ?_)
  · rw [oV_n c1] at hl
    refine lv_aload_n hx hb dX3_comeOnto_11 rfl (lv_at hl 2 rfl) ?_
    refine gX3_144 (i := jv) hx hb hts hown hK hI hjv dX3_comeOnto_12 ?_
    have hJ4 : ∀ (S2 : XS) (H : Heap) (locs : List Loc), (S2 = if (S.1 2 jv 5) = 0 then (xset S 2 jv 4 ((S.1 2 jv 4) - 1)) else S) → (fI G.2.2.1 A s.heap (xW G.2.2.2 G.2.1 Z S2) H locs) → (CW Z S2) → W p G.1 e ({ frames := 4, cells := 0, slots := 0, locals := 86 }) s m args below meth c H locs 0 0 Q (F0 m 28 ls []) := by
      intro S2 H locs eS2 hI hf3
      refine lv_aload_n hx hb dX3_comeOnto_28 rfl (lv_at hl 0 rfl) ?_
      refine lv_aload_n hx hb dX3_comeOnto_29 rfl (lv_at hl 2 rfl) ?_
      refine gX3_144 (i := jv) hx hb hts hown hK hI hjv dX3_comeOnto_30 ?_
      refine lv_aload_n hx hb dX3_comeOnto_33 rfl (lv_at hl 1 rfl) ?_
      refine gX3_32 (i := 0) hx hb hts hown hK hI (by decide) dX3_comeOnto_34 ?_
      obtain ⟨S5, eS5⟩ : ∃ z : XS, z = X_noteComing Z S2 (X_pieceAhead Z S jv - 1) (S2.1 2 jv 5) (S2.1 0 0 6) := ⟨_, rfl⟩
      refine cV0 (rest := []) hx hb hml hts hown hK hE hI (cX_noteComing G Z S2 (X_pieceAhead Z S jv - 1) (S2.1 2 jv 5) (S2.1 0 0 6) (pA_lt hWZ c1)) kX3_273 ⟨Nat.le_of_ble_eq_true rfl, Nat.le_of_ble_eq_true rfl⟩ rfl rfl (kk := 1) (ii := X_pieceAhead Z S jv - 1) (xW1 (pA_lt hWZ c1)) rfl rfl hl.1 rfl (Nat.le_of_ble_eq_true rfl) dX3_comeOnto_37 ⟨Nat.zero_le _, Nat.zero_le _⟩ (fun H locs hI => ?_)
      rw [← eS5] at hI
      refine lv_aload_n hx hb dX3_comeOnto_40 rfl (lv_at hl 0 rfl) ?_
      refine gX3_277 (i := X_pieceAhead Z S jv - 1) hx hb hts hown hK hI (pA_lt hWZ c1) dX3_comeOnto_41 ?_
      refine lv_aload_n hx hb dX3_comeOnto_44 rfl (lv_at hl 2 rfl) ?_
      refine cVv (rest := [.int (S5.1 1 (X_pieceAhead Z S jv - 1) 13)]) hx hb hml hts hown hK hE hI (cX_weight G Z S5 jv hjv (eS5 ▸ (CW_eq X_noteComing_c hf3))) kX3_139 ⟨Nat.le_of_ble_eq_true rfl, Nat.le_of_ble_eq_true rfl⟩ rfl rfl (kk := 2) (ii := jv) (xW2 hjv) rfl rfl hl.1 rfl (Nat.le_of_ble_eq_true rfl) dX3_comeOnto_45 ⟨Nat.zero_le _, Nat.zero_le _⟩ (fun H locs hI => ?_)
      refine lv_iadd hx hb dX3_comeOnto_48 ?_
      refine lv_aload_n hx hb dX3_comeOnto_49 rfl (lv_at hl 0 rfl) ?_
      refine lv_iconst (v := 0) hx hb dX3_comeOnto_50 (by decide) ?_
      refine cVv (rest := [.int ((S5.1 1 (X_pieceAhead Z S jv - 1) 13) + (X_weight Z S5 jv))]) hx hb hml hts hown hK hE hI (cX_bearsAs G Z S5 (X_pieceAhead Z S jv - 1) 0 (pA_lt hWZ c1)) kX3_183 ⟨Nat.le_of_ble_eq_true rfl, Nat.le_of_ble_eq_true rfl⟩ rfl rfl (kk := 1) (ii := X_pieceAhead Z S jv - 1) (xW1 (pA_lt hWZ c1)) rfl rfl hl.1 rfl (Nat.le_of_ble_eq_true rfl) dX3_comeOnto_51 ⟨Nat.zero_le _, Nat.zero_le _⟩ (fun H locs hI => ?_)
      have hJ8 : ∀ (S6 : XS) (H : Heap) (locs : List Loc), (S6 = if ((S5.1 1 (X_pieceAhead Z S jv - 1) 13) + (X_weight Z S5 jv)) ≤ (X_bearsAs Z S5 (X_pieceAhead Z S jv - 1) 0) then (X_takeOn Z (xset (xset S5 2 jv 3 1) 2 jv 6 (((xset S5 2 jv 3 1).1 0 0 6) + (X_minutesOf Z (xset S5 2 jv 3 1) (X_pieceAhead Z S jv - 1) jv))) (X_pieceAhead Z S jv - 1) jv) else (X_breakUp Z (xset S5 2 jv 3 4) (X_pieceAhead Z S jv - 1))) → (fI G.2.2.1 A s.heap (xW G.2.2.2 G.2.1 Z S6) H locs) → (CW Z S6) → W p G.1 e ({ frames := 4, cells := 0, slots := 0, locals := 86 }) s m args below meth c H locs 0 0 Q (F0 m 93 ls []) := by
        intro S6 H locs eS6 hI hf7
        have HE : X_comeOnto Z S jv = S6 := by subst eS6 eS5 eS2; exact (if_neg c1)
        exact rt_v hx hb hr hlocks hI hA hQ ⟨rfl, by rw [HE]⟩ (Nat.zero_le _) (Nat.zero_le _) dX3_comeOnto_93
      refine lv_icmp_le (tgt := 69) hx hb dX3_comeOnto_54 (by decide) (fun c9 => ?_) (fun c9 => ?_)
      · refine lv_aload_n hx hb dX3_comeOnto_69 rfl (lv_at hl 2 rfl) ?_
        refine lv_iconst (v := 1) hx hb dX3_comeOnto_70 (by decide) ?_
        obtain ⟨S10, eS10⟩ : ∃ z : XS, z = xset S5 2 jv 3 1 := ⟨_, rfl⟩
        refine pX3_125 (i := jv) hx hb hts hown hK hI hjv eS10 dX3_comeOnto_71 (fun H locs hI => ?_)
        refine lv_aload_n hx hb dX3_comeOnto_74 rfl (lv_at hl 2 rfl) ?_
        refine lv_aload_n hx hb dX3_comeOnto_75 rfl (lv_at hl 1 rfl) ?_
        refine gX3_32 (i := 0) hx hb hts hown hK hI (by decide) dX3_comeOnto_76 ?_
        refine lv_aload_n hx hb dX3_comeOnto_79 rfl (lv_at hl 0 rfl) ?_
        refine lv_aload_n hx hb dX3_comeOnto_80 rfl (lv_at hl 2 rfl) ?_
        refine cVv (rest := [.int (S10.1 0 0 6), .ref (Z.A 2 jv)]) hx hb hml hts hown hK hE hI (cX_minutesOf G Z S10 (X_pieceAhead Z S jv - 1) jv (pA_lt hWZ c1) hjv) kX3_206 ⟨Nat.le_of_ble_eq_true rfl, Nat.le_of_ble_eq_true rfl⟩ rfl rfl (kk := 1) (ii := X_pieceAhead Z S jv - 1) (xW1 (pA_lt hWZ c1)) rfl rfl hl.1 rfl (Nat.le_of_ble_eq_true rfl) dX3_comeOnto_81 ⟨Nat.zero_le _, Nat.zero_le _⟩ (fun H locs hI => ?_)
        refine lv_iadd hx hb dX3_comeOnto_84 ?_
        obtain ⟨S11, eS11⟩ : ∃ z : XS, z = xset S10 2 jv 6 ((S10.1 0 0 6) + (X_minutesOf Z S10 (X_pieceAhead Z S jv - 1) jv)) := ⟨_, rfl⟩
        refine pX3_196 (i := jv) hx hb hts hown hK hI hjv eS11 dX3_comeOnto_85 (fun H locs hI => ?_)
        refine lv_aload_n hx hb dX3_comeOnto_88 rfl (lv_at hl 0 rfl) ?_
        refine lv_aload_n hx hb dX3_comeOnto_89 rfl (lv_at hl 2 rfl) ?_
        obtain ⟨S12, eS12⟩ : ∃ z : XS, z = X_takeOn Z S11 (X_pieceAhead Z S jv - 1) jv := ⟨_, rfl⟩
        refine cV0 (rest := []) hx hb hml hts hown hK hE hI (cX_takeOn G Z S11 (X_pieceAhead Z S jv - 1) jv (pA_lt hWZ c1) hjv (CW_set eS11 (CW_set eS10 (eS5 ▸ (CW_eq X_noteComing_c hf3))))) kX3_283 ⟨Nat.le_of_ble_eq_true rfl, Nat.le_of_ble_eq_true rfl⟩ rfl rfl (kk := 1) (ii := X_pieceAhead Z S jv - 1) (xW1 (pA_lt hWZ c1)) rfl rfl hl.1 rfl (Nat.le_of_ble_eq_true rfl) dX3_comeOnto_90 ⟨Nat.zero_le _, Nat.zero_le _⟩ (fun H locs hI => ?_)
        rw [← eS12] at hI
        exact hJ8 S12 _ _ (by subst eS12 eS11 eS10; exact (if_pos c9).symm) hI (eS12 ▸ (CW_eq X_takeOn_c (CW_set eS11 (CW_set eS10 (eS5 ▸ (CW_eq X_noteComing_c hf3))))))
      · refine lv_aload_n hx hb dX3_comeOnto_57 rfl (lv_at hl 2 rfl) ?_
        refine lv_iconst (v := 4) hx hb dX3_comeOnto_58 (by decide) ?_
        obtain ⟨S13, eS13⟩ : ∃ z : XS, z = xset S5 2 jv 3 4 := ⟨_, rfl⟩
        refine pX3_125 (i := jv) hx hb hts hown hK hI hjv eS13 dX3_comeOnto_59 (fun H locs hI => ?_)
        refine lv_aload_n hx hb dX3_comeOnto_62 rfl (lv_at hl 0 rfl) ?_
        obtain ⟨S14, eS14⟩ : ∃ z : XS, z = X_breakUp Z S13 (X_pieceAhead Z S jv - 1) := ⟨_, rfl⟩
        refine cV0 (rest := []) hx hb hml hts hown hK hE hI (cX_breakUp G Z S13 (X_pieceAhead Z S jv - 1) (pA_lt hWZ c1)) kX3_280 ⟨Nat.le_of_ble_eq_true rfl, Nat.le_of_ble_eq_true rfl⟩ rfl rfl (kk := 1) (ii := X_pieceAhead Z S jv - 1) (xW1 (pA_lt hWZ c1)) rfl rfl hl.1 rfl (Nat.le_of_ble_eq_true rfl) dX3_comeOnto_63 ⟨Nat.zero_le _, Nat.zero_le _⟩ (fun H locs hI => ?_)
        rw [← eS14] at hI
        refine lv_goto (tgt := 93) hx hb dX3_comeOnto_66 (by decide) ?_
        exact hJ8 S14 _ _ (by subst eS14 eS13; exact (if_neg c9).symm) hI (eS14 ▸ (CW_eq X_breakUp_c (CW_set eS13 (eS5 ▸ (CW_eq X_noteComing_c hf3)))))
    refine lv_if_ne (tgt := 28) hx hb dX3_comeOnto_15 (by decide) (fun c15 => ?_) (fun c15 => ?_)
    · exact hJ4 S _ _ (by exact (if_neg c15).symm) hI hC
    · refine lv_aload_n hx hb dX3_comeOnto_18 rfl (lv_at hl 2 rfl) ?_
      refine lv_dup hx hb dX3_comeOnto_19 rfl ?_
      refine gX3_193 (i := jv) hx hb hts hown hK hI hjv dX3_comeOnto_20 ?_
      refine lv_iconst (v := 1) hx hb dX3_comeOnto_23 (by decide) ?_
      refine lv_isub hx hb dX3_comeOnto_24 ?_
      obtain ⟨S16, eS16⟩ : ∃ z : XS, z = xset S 2 jv 4 ((S.1 2 jv 4) - 1) := ⟨_, rfl⟩
      refine pX3_193 (i := jv) hx hb hts hown hK hI hjv eS16 dX3_comeOnto_25 (fun H locs hI => ?_)
      exact hJ4 S16 _ _ (by subst eS16; exact (if_pos c15).symm) hI (CW_set eS16 hC)
  · have HE : X_comeOnto Z S jv = S := by exact (if_pos c1)
    exact rt_v hx hb hr hlocks hI hA hQ ⟨rfl, by rw [HE]⟩ (Nat.zero_le _) (Nat.zero_le _) dX3_comeOnto_10

theorem CW_comeOnto {Z : XZ} {S : XS} {j : Nat} (h : CW Z S) : CW Z (X_comeOnto Z S j) := by
  unfold X_comeOnto
  dsimp only
  exact CW_ite h (CW_ite (CW_eq X_takeOn_c (CW_set rfl (CW_set rfl (CW_eq X_noteComing_c (CW_ite (CW_set rfl h) h))))) (CW_eq X_breakUp_c (CW_set rfl (CW_eq X_noteComing_c (CW_ite (CW_set rfl h) h)))))
def X_moveOn (Z : XZ) (S : XS) (jv : Nat) : XS :=
  let S1 := if (S.1 2 jv 3) = 1 then (if (S.1 0 0 6) < (S.1 2 jv 6) then S else (X_leave Z S jv)) else S
  let S4 := if (S1.1 2 jv 3) = 2 then (if (X_whatIsAgainst Z S1 jv) = 0 then (X_comeOnto Z S1 jv) else S1) else S1
  S4
set_option maxHeartbeats 4000000 in
set_option maxRecDepth 100000 in
theorem cX_moveOn (G : GX) (Z : XZ) (S : XS) (jv : Nat) (hjv : jv < Z.O 2) (hWZ : WZ Z) (hC : CW Z S) : FC G yX3_moveOn cX3_moveOn 2 none ({ frames := 5, cells := 0, slots := 0, locals := 110 }) [.ref (Z.A 0 0), .ref (Z.A 2 jv)] (xW G.2.2.2 G.2.1 Z S) (p0 (xW G.2.2.2 G.2.1 Z (X_moveOn Z S jv))) := by
  refine FC.go (lv := [(0, .ref (Z.A 0 0)), (1, .ref (Z.A 2 jv))]) (by decide) (Nat.le_of_ble_eq_true rfl) rfl (fun p e s m args below meth c A H locs ls Q hx hb hr hts hown hml hlocks hnm hK hE hI hA hl hQ => ?_)
  have hown : s.vm.findClass RX3 = some m.cls := hown
  refine lv_aload_n hx hb dX3_moveOn_0 rfl (lv_at hl 1 rfl) ?_
  refine gX3_125 (i := jv) hx hb hts hown hK hI hjv dX3_moveOn_1 ?_
  refine lv_iconst (v := 1) hx hb dX3_moveOn_4 (by decide) ?_
  have hJ3 : ∀ (S1 : XS) (H : Heap) (locs : List Loc), (S1 = if (S.1 2 jv 3) = 1 then (if (S.1 0 0 6) < (S.1 2 jv 6) then S else (X_leave Z S jv)) else S) → (fI G.2.2.1 A s.heap (xW G.2.2.2 G.2.1 Z S1) H locs) → (CW Z S1) → W p G.1 e ({ frames := 5, cells := 0, slots := 0, locals := 110 }) s m args below meth c H locs 0 0 Q (F0 m 24 ls []) := by
    intro S1 H locs eS1 hI hf2
    refine lv_aload_n hx hb dX3_moveOn_24 rfl (lv_at hl 1 rfl) ?_
    refine gX3_125 (i := jv) hx hb hts hown hK hI hjv dX3_moveOn_25 ?_
    refine lv_iconst (v := 2) hx hb dX3_moveOn_28 (by decide) ?_
    have hJ6 : ∀ (S4 : XS) (H : Heap) (locs : List Loc), (S4 = if (S1.1 2 jv 3) = 2 then (if (X_whatIsAgainst Z S1 jv) = 0 then (X_comeOnto Z S1 jv) else S1) else S1) → (fI G.2.2.1 A s.heap (xW G.2.2.2 G.2.1 Z S4) H locs) → (CW Z S4) → W p G.1 e ({ frames := 5, cells := 0, slots := 0, locals := 110 }) s m args below meth c H locs 0 0 Q (F0 m 45 ls []) := by
      intro S4 H locs eS4 hI hf5
      have HE : X_moveOn Z S jv = S4 := by subst eS4 eS1; exact rfl
      exact rt_v hx hb hr hlocks hI hA hQ ⟨rfl, by rw [HE]⟩ (Nat.zero_le _) (Nat.zero_le _) dX3_moveOn_45
    refine lv_icmp_ne (tgt := 45) hx hb dX3_moveOn_29 (by decide) (fun c7 => ?_) (fun c7 => ?_)
    · exact hJ6 S1 _ _ (by exact (if_neg c7).symm) hI hf2
    · refine lv_aload_n hx hb dX3_moveOn_32 rfl (lv_at hl 0 rfl) ?_
      refine lv_aload_n hx hb dX3_moveOn_33 rfl (lv_at hl 1 rfl) ?_
      refine cVv (rest := []) hx hb hml hts hown hK hE hI (cX_whatIsAgainst G Z S1 jv hjv hWZ hf2) kX3_199 ⟨Nat.le_of_ble_eq_true rfl, Nat.le_of_ble_eq_true rfl⟩ rfl rfl (kk := 0) (ii := 0) (xW0 (by decide)) rfl rfl hl.1 rfl (Nat.le_of_ble_eq_true rfl) dX3_moveOn_34 ⟨Nat.zero_le _, Nat.zero_le _⟩ (fun H locs hI => ?_)
      refine lv_if_ne (tgt := 45) hx hb dX3_moveOn_37 (by decide) (fun c8 => ?_) (fun c8 => ?_)
      · exact hJ6 S1 _ _ (by exact ((if_pos c7).trans (if_neg c8)).symm) hI hf2
      · refine lv_aload_n hx hb dX3_moveOn_40 rfl (lv_at hl 0 rfl) ?_
        refine lv_aload_n hx hb dX3_moveOn_41 rfl (lv_at hl 1 rfl) ?_
        obtain ⟨S9, eS9⟩ : ∃ z : XS, z = X_comeOnto Z S1 jv := ⟨_, rfl⟩
        refine cV0 (rest := []) hx hb hml hts hown hK hE hI (cX_comeOnto G Z S1 jv hjv hWZ hf2) kX3_260 ⟨Nat.le_of_ble_eq_true rfl, Nat.le_of_ble_eq_true rfl⟩ rfl rfl (kk := 0) (ii := 0) (xW0 (by decide)) rfl rfl hl.1 rfl (Nat.le_of_ble_eq_true rfl) dX3_moveOn_42 ⟨Nat.zero_le _, Nat.zero_le _⟩ (fun H locs hI => ?_)
        rw [← eS9] at hI
        exact hJ6 S9 _ _ (by subst eS9; exact ((if_pos c7).trans (if_pos c8)).symm) hI (eS9 ▸ (CW_comeOnto hf2))
  refine lv_icmp_ne (tgt := 24) hx hb dX3_moveOn_5 (by decide) (fun c10 => ?_) (fun c10 => ?_)
  · exact hJ3 S _ _ (by exact (if_neg c10).symm) hI hC
  · refine lv_aload_n hx hb dX3_moveOn_8 rfl (lv_at hl 1 rfl) ?_
    refine gX3_196 (i := jv) hx hb hts hown hK hI hjv dX3_moveOn_9 ?_
    refine lv_aload_n hx hb dX3_moveOn_12 rfl (lv_at hl 0 rfl) ?_
    refine gX3_32 (i := 0) hx hb hts hown hK hI (by decide) dX3_moveOn_13 ?_
    refine lv_icmp_gt (tgt := 24) hx hb dX3_moveOn_16 (by decide) (fun c11 => ?_) (fun c11 => ?_)
    · exact hJ3 S _ _ (by exact ((if_pos c10).trans (if_pos c11)).symm) hI hC
    · refine lv_aload_n hx hb dX3_moveOn_19 rfl (lv_at hl 0 rfl) ?_
      refine lv_aload_n hx hb dX3_moveOn_20 rfl (lv_at hl 1 rfl) ?_
      obtain ⟨S12, eS12⟩ : ∃ z : XS, z = X_leave Z S jv := ⟨_, rfl⟩
      refine cV0 (rest := []) hx hb hml hts hown hK hE hI (cX_leave G Z S jv hjv hWZ hC) kX3_257 ⟨Nat.le_of_ble_eq_true rfl, Nat.le_of_ble_eq_true rfl⟩ rfl rfl (kk := 0) (ii := 0) (xW0 (by decide)) rfl rfl hl.1 rfl (Nat.le_of_ble_eq_true rfl) dX3_moveOn_21 ⟨Nat.zero_le _, Nat.zero_le _⟩ (fun H locs hI => ?_)
      rw [← eS12] at hI
      exact hJ3 S12 _ _ (by subst eS12; exact ((if_pos c10).trans (if_neg c11)).symm) hI (eS12 ▸ (CW_leave hC))

theorem CW_moveOn {Z : XZ} {S : XS} {j : Nat} (h : CW Z S) : CW Z (X_moveOn Z S j) := by
  unfold X_moveOn
  dsimp only
  exact CW_ite (CW_ite (CW_comeOnto (CW_ite (CW_ite h (CW_leave h)) h)) (CW_ite (CW_ite h (CW_leave h)) h)) (CW_ite (CW_ite h (CW_leave h)) h)
