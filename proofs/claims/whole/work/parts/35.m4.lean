def M_go (S : MS) (uv : Int32) : Int32 × MS :=
  if M_isVehicle S uv then
    if (M_isVehicle S uv) ∧ (((S.1 20 uv.toNatClampNeg) = 0) ∨ ((S.1 20 uv.toNatClampNeg) = 3)) then
      let S5 := mset S 29 0 0
      let S7 := mset S5 22 uv.toNatClampNeg (bI ((S5.1 20 uv.toNatClampNeg) = 0))
      let S8 := mset S7 20 uv.toNatClampNeg 2
      (S8.1 22 uv.toNatClampNeg, S8)
    else
      let S4 := mset S 29 0 2
      (0, S4)
  else
    let S12 := mset S 29 0 1
    (0, S12)
set_option maxHeartbeats 4000000 in
set_option maxRecDepth 100000 in
theorem cM_go (G : GX) (ad : Nat → Nat) (S : MS) (uv : Int32) {np nv : Nat} (hN : MNn S np nv) : FC G yX4_go cX4_go 3 (some .boolean) ({ frames := 2, cells := 0, slots := 0, locals := 43 }) [.ref (ad 0), .int uv] (mW G.2.2.2 ad S) (pv (.int (M_go S uv).1) (mW G.2.2.2 ad (M_go S uv).2)) := by
  refine FC.go (lv := [(0, .ref (ad 0)), (1, .int uv)]) (by decide) (Nat.le_of_ble_eq_true rfl) rfl (fun p e s m args below meth c A H locs ls Q hx hb hr hts hown hml hlocks hnm hK hE hI hA hl hQ => ?_)
  have hown : s.vm.findClass RX4 = some m.cls := hown
  refine lv_aload_n hx hb dX4_go_0 rfl (lv_at hl 0 rfl) ?_
  refine lv_iload_n hx hb dX4_go_1 rfl (lv_at hl 1 rfl) ?_
  refine cVv (rest := []) hx hb hml hts hown hK hE hI (cM_isVehicle G ad S uv) kM_123 ⟨Nat.le_of_ble_eq_true rfl, Nat.le_of_ble_eq_true rfl⟩ rfl rfl (kk := 4) (ii := 0) rfl rfl rfl hl.1 rfl (Nat.le_of_ble_eq_true rfl) dX4_go_2 ⟨Nat.zero_le _, Nat.zero_le _⟩ (fun H locs hI => ?_)
  have hJ1 : W p G.1 e ({ frames := 2, cells := 0, slots := 0, locals := 43 }) s m args below meth c H locs 0 0 Q (F0 m 32 ls [.int (bI ((M_isVehicle S uv) ∧ (((S.1 20 uv.toNatClampNeg) = 0) ∨ ((S.1 20 uv.toNatClampNeg) = 3))))]) := by
    refine lv_istore_n (lv' := [(2, .int (bI ((M_isVehicle S uv) ∧ (((S.1 20 uv.toNatClampNeg) = 0) ∨ ((S.1 20 uv.toNatClampNeg) = 3))))), (0, .ref (ad 0)), (1, .int uv)]) hx hb dX4_go_32 rfl hl (by decide) rfl (fun ls hl => ?_)
    refine lv_aload_n hx hb dX4_go_33 rfl (lv_at hl 1 rfl) ?_
    refine lv_aload_n hx hb dX4_go_34 rfl (lv_at hl 1 rfl) ?_
    refine lv_iload_n hx hb dX4_go_35 rfl (lv_at hl 2 rfl) ?_
    refine cVv (rest := [.ref (ad 0)]) hx hb hml hts hown hK hE hI (cM_isVehicle G ad S uv) kM_123 ⟨Nat.le_of_ble_eq_true rfl, Nat.le_of_ble_eq_true rfl⟩ rfl rfl (kk := 4) (ii := 0) rfl rfl rfl hl.1 rfl (Nat.le_of_ble_eq_true rfl) dX4_go_36 ⟨Nat.zero_le _, Nat.zero_le _⟩ (fun H locs hI => ?_)
    refine xb_ne (tgt := 46) hx hb dX4_go_39 (by decide) (fun c2 => ?_) (fun c2 => ?_)
    · refine lv_iload_n hx hb dX4_go_46 rfl (lv_at hl 0 rfl) ?_
      refine xb_eq (tgt := 54) hx hb dX4_go_47 (by decide) (fun c3 => ?_) (fun c3 => ?_)
      · refine lv_iconst (v := 2) hx hb dX4_go_54 (by decide) ?_
        obtain ⟨S4, eS4⟩ : ∃ z : MS, z = mset S 29 0 2 := ⟨_, rfl⟩
        refine cVv (rest := []) hx hb hml hts hown hK hE hI (cM_fails2 G ad S) kM_101 ⟨Nat.le_of_ble_eq_true rfl, Nat.le_of_ble_eq_true rfl⟩ rfl rfl (kk := 4) (ii := 0) rfl rfl rfl hl.1 rfl (Nat.le_of_ble_eq_true rfl) dX4_go_55 ⟨Nat.zero_le _, Nat.zero_le _⟩ (fun H locs hI => ?_)
        rw [← eS4] at hI
        refine lv_if_eq (tgt := 63) hx hb dX4_go_58 (by decide) (fun h => absurd h (by decide)) (fun _ => ?_)
        refine lv_iconst (v := 0) hx hb dX4_go_61 (by decide) ?_
        have HE : M_go S uv = (0, S4) := by subst eS4; exact (if_pos c2).trans ((if_neg c3))
        exact rt_z hx hb hr hlocks (by decide) hI hA hQ ⟨by rw [HE], by rw [HE]⟩ (Nat.zero_le _) (Nat.zero_le _) dX4_go_62
      · refine lv_iconst (v := 0) hx hb dX4_go_50 (by decide) ?_
        refine lv_goto (tgt := 55) hx hb dX4_go_51 (by decide) ?_
        obtain ⟨S5, eS5⟩ : ∃ z : MS, z = mset S 29 0 0 := ⟨_, rfl⟩
        refine cVv (rest := []) hx hb hml hts hown hK hE hI (cM_fails0 G ad S) kM_101 ⟨Nat.le_of_ble_eq_true rfl, Nat.le_of_ble_eq_true rfl⟩ rfl rfl (kk := 4) (ii := 0) rfl rfl rfl hl.1 rfl (Nat.le_of_ble_eq_true rfl) dX4_go_55 ⟨Nat.zero_le _, Nat.zero_le _⟩ (fun H locs hI => ?_)
        rw [← eS5] at hI
        refine lv_if_eq (tgt := 63) hx hb dX4_go_58 (by decide) (fun _ => ?_) (fun h => absurd h (by decide))
        refine lv_aload_n hx hb dX4_go_63 rfl (lv_at hl 1 rfl) ?_
        refine gM_66 hx hb hts hown hK hI dX4_go_64 ?_
        refine lv_iload_n hx hb dX4_go_67 rfl (lv_at hl 2 rfl) ?_
        refine lv_aload_n hx hb dX4_go_68 rfl (lv_at hl 1 rfl) ?_
        refine gM_60 hx hb hts hown hK hI dX4_go_69 ?_
        refine lv_iload_n hx hb dX4_go_72 rfl (lv_at hl 2 rfl) ?_
        refine lM_20 hx hb hK hI (isVehicle_in hN (c3).1) dX4_go_73 ?_
        have hJ6 : W p G.1 e ({ frames := 2, cells := 0, slots := 0, locals := 43 }) s m args below meth c H locs 0 0 Q (F0 m 82 ls [.int (bI ((S5.1 20 uv.toNatClampNeg) = 0)), .int uv, .ref (ad 22)]) := by
          obtain ⟨S7, eS7⟩ : ∃ z : MS, z = mset S5 22 uv.toNatClampNeg (bI ((S5.1 20 uv.toNatClampNeg) = 0)) := ⟨_, rfl⟩
          refine sM_22 hx hb hK hI (isVehicle_in hN (c3).1) bI_nar eS7 dX4_go_82 (fun H locs hI => ?_)
          refine lv_aload_n hx hb dX4_go_83 rfl (lv_at hl 1 rfl) ?_
          refine gM_60 hx hb hts hown hK hI dX4_go_84 ?_
          refine lv_iload_n hx hb dX4_go_87 rfl (lv_at hl 2 rfl) ?_
          refine lv_iconst (v := 2) hx hb dX4_go_88 (by decide) ?_
          obtain ⟨S8, eS8⟩ : ∃ z : MS, z = mset S7 20 uv.toNatClampNeg 2 := ⟨_, rfl⟩
          refine sM_20 hx hb hK hI (isVehicle_in hN (c3).1) eS8 dX4_go_89 (fun H locs hI => ?_)
          refine lv_aload_n hx hb dX4_go_90 rfl (lv_at hl 1 rfl) ?_
          refine gM_66 hx hb hts hown hK hI dX4_go_91 ?_
          refine lv_iload_n hx hb dX4_go_94 rfl (lv_at hl 2 rfl) ?_
          refine lM_22 hx hb hK hI (isVehicle_in hN (c3).1) dX4_go_95 ?_
          have HE : M_go S uv = (S8.1 22 uv.toNatClampNeg, S8) := by subst eS8 eS7 eS5; exact (if_pos c2).trans ((if_pos c3))
          exact rt_z hx hb hr hlocks (by subst eS8 eS7 eS5; rw [mset_k (k' := 22) (by decide), mset_s]; exact bI_narrow) hI hA hQ ⟨by rw [HE], by rw [HE]⟩ (Nat.zero_le _) (Nat.zero_le _) dX4_go_96
        refine lv_if_ne (tgt := 81) hx hb dX4_go_74 (by decide) (fun c9 => ?_) (fun c9 => ?_)
        · refine lv_iconst (v := 0) hx hb dX4_go_81 (by decide) ?_
          have eb10 : (0 : Int32) = bI ((S5.1 20 uv.toNatClampNeg) = 0) := (bI_f c9).symm
          rw [eb10]
          exact hJ6
        · refine lv_iconst (v := 1) hx hb dX4_go_77 (by decide) ?_
          refine lv_goto (tgt := 82) hx hb dX4_go_78 (by decide) ?_
          have eb11 : (1 : Int32) = bI ((S5.1 20 uv.toNatClampNeg) = 0) := (bI_t c9).symm
          rw [eb11]
          exact hJ6
    · refine lv_iconst (v := 1) hx hb dX4_go_42 (by decide) ?_
      refine lv_goto (tgt := 55) hx hb dX4_go_43 (by decide) ?_
      obtain ⟨S12, eS12⟩ : ∃ z : MS, z = mset S 29 0 1 := ⟨_, rfl⟩
      refine cVv (rest := []) hx hb hml hts hown hK hE hI (cM_fails1 G ad S) kM_101 ⟨Nat.le_of_ble_eq_true rfl, Nat.le_of_ble_eq_true rfl⟩ rfl rfl (kk := 4) (ii := 0) rfl rfl rfl hl.1 rfl (Nat.le_of_ble_eq_true rfl) dX4_go_55 ⟨Nat.zero_le _, Nat.zero_le _⟩ (fun H locs hI => ?_)
      rw [← eS12] at hI
      refine lv_if_eq (tgt := 63) hx hb dX4_go_58 (by decide) (fun h => absurd h (by decide)) (fun _ => ?_)
      refine lv_iconst (v := 0) hx hb dX4_go_61 (by decide) ?_
      have HE : M_go S uv = (0, S12) := by subst eS12; exact (if_neg c2)
      exact rt_z hx hb hr hlocks (by decide) hI hA hQ ⟨by rw [HE], by rw [HE]⟩ (Nat.zero_le _) (Nat.zero_le _) dX4_go_62
  refine xb_eq (tgt := 31) hx hb dX4_go_5 (by decide) (fun c13 => ?_) (fun c13 => ?_)
  · refine lv_iconst (v := 0) hx hb dX4_go_31 (by decide) ?_
    have eb14 : (0 : Int32) = bI ((M_isVehicle S uv) ∧ (((S.1 20 uv.toNatClampNeg) = 0) ∨ ((S.1 20 uv.toNatClampNeg) = 3))) := (bI_f (fun k => c13 k.1)).symm
    rw [eb14]
    exact hJ1
  · refine lv_aload_n hx hb dX4_go_8 rfl (lv_at hl 0 rfl) ?_
    refine gM_60 hx hb hts hown hK hI dX4_go_9 ?_
    refine lv_iload_n hx hb dX4_go_12 rfl (lv_at hl 1 rfl) ?_
    refine lM_20 hx hb hK hI (isVehicle_in hN c13) dX4_go_13 ?_
    refine lv_if_eq (tgt := 27) hx hb dX4_go_14 (by decide) (fun c15 => ?_) (fun c15 => ?_)
    · refine lv_iconst (v := 1) hx hb dX4_go_27 (by decide) ?_
      refine lv_goto (tgt := 32) hx hb dX4_go_28 (by decide) ?_
      have eb16 : (1 : Int32) = bI ((M_isVehicle S uv) ∧ (((S.1 20 uv.toNatClampNeg) = 0) ∨ ((S.1 20 uv.toNatClampNeg) = 3))) := (bI_t ⟨c13, (Or.inl c15)⟩).symm
      rw [eb16]
      exact hJ1
    · refine lv_aload_n hx hb dX4_go_17 rfl (lv_at hl 0 rfl) ?_
      refine gM_60 hx hb hts hown hK hI dX4_go_18 ?_
      refine lv_iload_n hx hb dX4_go_21 rfl (lv_at hl 1 rfl) ?_
      refine lM_20 hx hb hK hI (isVehicle_in hN c13) dX4_go_22 ?_
      refine lv_iconst (v := 3) hx hb dX4_go_23 (by decide) ?_
      refine lv_icmp_ne (tgt := 31) hx hb dX4_go_24 (by decide) (fun c17 => ?_) (fun c17 => ?_)
      · refine lv_iconst (v := 0) hx hb dX4_go_31 (by decide) ?_
        have eb18 : (0 : Int32) = bI ((M_isVehicle S uv) ∧ (((S.1 20 uv.toNatClampNeg) = 0) ∨ ((S.1 20 uv.toNatClampNeg) = 3))) := (bI_f (fun k => (fun k => k.elim c15 c17) k.2)).symm
        rw [eb18]
        exact hJ1
      · refine lv_iconst (v := 1) hx hb dX4_go_27 (by decide) ?_
        refine lv_goto (tgt := 32) hx hb dX4_go_28 (by decide) ?_
        have eb19 : (1 : Int32) = bI ((M_isVehicle S uv) ∧ (((S.1 20 uv.toNatClampNeg) = 0) ∨ ((S.1 20 uv.toNatClampNeg) = 3))) := (bI_t ⟨c13, (Or.inr c17)⟩).symm
        rw [eb19]
        exact hJ1

theorem M_unloads_k (S : MS) (v b : Int32) {k : Nat} (h4 : k ≠ 24) (h5 : k ≠ 25) (h6 : k ≠ 26) (h7 : k ≠ 27) : (M_unloads S v b).1 k = S.1 k := by
  unfold M_unloads
  simp only
  rw [mset_k h5, mset_k h4]
  split
  · rfl
  · rw [mset_k h6, mset_k h7]
theorem M_arrives_k (S : MS) (v : Int32) {k : Nat} (h0 : k ≠ 20) (h4 : k ≠ 24) (h5 : k ≠ 25) (h6 : k ≠ 26) (h7 : k ≠ 27) : (M_arrives S v).1 k = S.1 k := by
  unfold M_arrives
  simp only
  rw [M_unloads_k _ _ _ h4 h5 h6 h7, mset_k h0]
def M_turn (S : MS) (uv : Int32) : Int32 × MS :=
  if M_isVehicle S uv then
    if (S.1 20 uv.toNatClampNeg) = 2 then
      let S4 := mset S 29 0 0
      let S6 := mset S4 22 uv.toNatClampNeg (bI ((S4.1 22 uv.toNatClampNeg) = 0))
      let S7 := if M_isThere S6 uv then (M_arrives S6 uv) else S6
      (S7.1 22 uv.toNatClampNeg, S7)
    else
      let S3 := mset S 29 0 2
      (0, S3)
  else
    let S14 := mset S 29 0 1
    (0, S14)
set_option maxHeartbeats 4000000 in
set_option maxRecDepth 100000 in
theorem cM_turn (G : GX) (ad : Nat → Nat) (S : MS) (uv : Int32) {np nv : Nat} (hN : MNn S np nv) (hG : GI S) : FC G yX4_turn cX4_turn 2 (some .boolean) ({ frames := 2, cells := 0, slots := 0, locals := 43 }) [.ref (ad 0), .int uv] (mW G.2.2.2 ad S) (pv (.int (M_turn S uv).1) (mW G.2.2.2 ad (M_turn S uv).2)) := by
  refine FC.go (lv := [(0, .ref (ad 0)), (1, .int uv)]) (by decide) (Nat.le_of_ble_eq_true rfl) rfl (fun p e s m args below meth c A H locs ls Q hx hb hr hts hown hml hlocks hnm hK hE hI hA hl hQ => ?_)
  have hown : s.vm.findClass RX4 = some m.cls := hown
  refine lv_aload_n hx hb dX4_turn_0 rfl (lv_at hl 0 rfl) ?_
  refine lv_aload_n hx hb dX4_turn_1 rfl (lv_at hl 0 rfl) ?_
  refine lv_iload_n hx hb dX4_turn_2 rfl (lv_at hl 1 rfl) ?_
  refine cVv (rest := [.ref (ad 0)]) hx hb hml hts hown hK hE hI (cM_isVehicle G ad S uv) kM_123 ⟨Nat.le_of_ble_eq_true rfl, Nat.le_of_ble_eq_true rfl⟩ rfl rfl (kk := 4) (ii := 0) rfl rfl rfl hl.1 rfl (Nat.le_of_ble_eq_true rfl) dX4_turn_3 ⟨Nat.zero_le _, Nat.zero_le _⟩ (fun H locs hI => ?_)
  refine xb_ne (tgt := 13) hx hb dX4_turn_6 (by decide) (fun c1 => ?_) (fun c1 => ?_)
  · refine lv_aload_n hx hb dX4_turn_13 rfl (lv_at hl 0 rfl) ?_
    refine gM_60 hx hb hts hown hK hI dX4_turn_14 ?_
    refine lv_iload_n hx hb dX4_turn_17 rfl (lv_at hl 1 rfl) ?_
    refine lM_20 hx hb hK hI (isVehicle_in hN c1) dX4_turn_18 ?_
    refine lv_iconst (v := 2) hx hb dX4_turn_19 (by decide) ?_
    refine lv_icmp_ne (tgt := 27) hx hb dX4_turn_20 (by decide) (fun c2 => ?_) (fun c2 => ?_)
    · refine lv_iconst (v := 2) hx hb dX4_turn_27 (by decide) ?_
      obtain ⟨S3, eS3⟩ : ∃ z : MS, z = mset S 29 0 2 := ⟨_, rfl⟩
      refine cVv (rest := []) hx hb hml hts hown hK hE hI (cM_fails2 G ad S) kM_101 ⟨Nat.le_of_ble_eq_true rfl, Nat.le_of_ble_eq_true rfl⟩ rfl rfl (kk := 4) (ii := 0) rfl rfl rfl hl.1 rfl (Nat.le_of_ble_eq_true rfl) dX4_turn_28 ⟨Nat.zero_le _, Nat.zero_le _⟩ (fun H locs hI => ?_)
      rw [← eS3] at hI
      refine lv_if_eq (tgt := 36) hx hb dX4_turn_31 (by decide) (fun h => absurd h (by decide)) (fun _ => ?_)
      refine lv_iconst (v := 0) hx hb dX4_turn_34 (by decide) ?_
      have HE : M_turn S uv = (0, S3) := by subst eS3; exact (if_pos c1).trans ((if_neg c2))
      exact rt_z hx hb hr hlocks (by decide) hI hA hQ ⟨by rw [HE], by rw [HE]⟩ (Nat.zero_le _) (Nat.zero_le _) dX4_turn_35
    · refine lv_iconst (v := 0) hx hb dX4_turn_23 (by decide) ?_
      refine lv_goto (tgt := 28) hx hb dX4_turn_24 (by decide) ?_
      obtain ⟨S4, eS4⟩ : ∃ z : MS, z = mset S 29 0 0 := ⟨_, rfl⟩
      refine cVv (rest := []) hx hb hml hts hown hK hE hI (cM_fails0 G ad S) kM_101 ⟨Nat.le_of_ble_eq_true rfl, Nat.le_of_ble_eq_true rfl⟩ rfl rfl (kk := 4) (ii := 0) rfl rfl rfl hl.1 rfl (Nat.le_of_ble_eq_true rfl) dX4_turn_28 ⟨Nat.zero_le _, Nat.zero_le _⟩ (fun H locs hI => ?_)
      rw [← eS4] at hI
      refine lv_if_eq (tgt := 36) hx hb dX4_turn_31 (by decide) (fun _ => ?_) (fun h => absurd h (by decide))
      refine lv_aload_n hx hb dX4_turn_36 rfl (lv_at hl 0 rfl) ?_
      refine gM_66 hx hb hts hown hK hI dX4_turn_37 ?_
      refine lv_iload_n hx hb dX4_turn_40 rfl (lv_at hl 1 rfl) ?_
      refine lv_aload_n hx hb dX4_turn_41 rfl (lv_at hl 0 rfl) ?_
      refine gM_66 hx hb hts hown hK hI dX4_turn_42 ?_
      refine lv_iload_n hx hb dX4_turn_45 rfl (lv_at hl 1 rfl) ?_
      refine lM_22 hx hb hK hI (isVehicle_in hN c1) dX4_turn_46 ?_
      have hJ5 : W p G.1 e ({ frames := 2, cells := 0, slots := 0, locals := 43 }) s m args below meth c H locs 0 0 Q (F0 m 55 ls [.int (bI ((S4.1 22 uv.toNatClampNeg) = 0)), .int uv, .ref (ad 22)]) := by
        obtain ⟨S6, eS6⟩ : ∃ z : MS, z = mset S4 22 uv.toNatClampNeg (bI ((S4.1 22 uv.toNatClampNeg) = 0)) := ⟨_, rfl⟩
        refine sM_22 hx hb hK hI (isVehicle_in hN c1) bI_nar eS6 dX4_turn_55 (fun H locs hI => ?_)
        refine lv_aload_n hx hb dX4_turn_56 rfl (lv_at hl 0 rfl) ?_
        refine lv_iload_n hx hb dX4_turn_57 rfl (lv_at hl 1 rfl) ?_
        refine cVv (rest := []) hx hb hml hts hown hK hE hI (cM_isThere G ad S6 uv (isVehicle_in hN c1)) kM_137 ⟨Nat.le_of_ble_eq_true rfl, Nat.le_of_ble_eq_true rfl⟩ rfl rfl (kk := 4) (ii := 0) rfl rfl rfl hl.1 rfl (Nat.le_of_ble_eq_true rfl) dX4_turn_58 ⟨Nat.zero_le _, Nat.zero_le _⟩ (fun H locs hI => ?_)
        have hJ8 : ∀ (S7 : MS) (H : Heap) (locs : List Loc), (S7 = if M_isThere S6 uv then (M_arrives S6 uv) else S6) → (fI G.2.2.1 A s.heap (mW G.2.2.2 ad S7) H locs) → W p G.1 e ({ frames := 2, cells := 0, slots := 0, locals := 43 }) s m args below meth c H locs 0 0 Q (F0 m 69 ls []) := by
          intro S7 H locs eS7 hI
          refine lv_aload_n hx hb dX4_turn_69 rfl (lv_at hl 0 rfl) ?_
          refine gM_66 hx hb hts hown hK hI dX4_turn_70 ?_
          refine lv_iload_n hx hb dX4_turn_73 rfl (lv_at hl 1 rfl) ?_
          refine lM_22 hx hb hK hI (isVehicle_in hN c1) dX4_turn_74 ?_
          have HE : M_turn S uv = (S7.1 22 uv.toNatClampNeg, S7) := by subst eS7 eS6 eS4; exact (if_pos c1).trans ((if_pos c2))
          exact rt_z hx hb hr hlocks (by subst eS7 eS6 eS4; first | (rw [M_arrives_k _ _ (by decide) (by decide) (by decide) (by decide) (by decide), mset_s]; exact bI_narrow) | (rw [mset_s]; exact bI_narrow) | (split <;> first | (rw [M_arrives_k _ _ (by decide) (by decide) (by decide) (by decide) (by decide), mset_s]; exact bI_narrow) | (rw [mset_s]; exact bI_narrow))) hI hA hQ ⟨by rw [HE], by rw [HE]⟩ (Nat.zero_le _) (Nat.zero_le _) dX4_turn_75
        refine xb_eq (tgt := 69) hx hb dX4_turn_61 (by decide) (fun c9 => ?_) (fun c9 => ?_)
        · exact hJ8 S6 _ _ (by exact (if_neg c9).symm) hI
        · refine lv_aload_n hx hb dX4_turn_64 rfl (lv_at hl 0 rfl) ?_
          refine lv_iload_n hx hb dX4_turn_65 rfl (lv_at hl 1 rfl) ?_
          obtain ⟨S10, eS10⟩ : ∃ z : MS, z = M_arrives S6 uv := ⟨_, rfl⟩
          refine cV0 (rest := []) hx hb hml hts hown hK hE hI (cM_arrives G ad S6 uv (isVehicle_in hN c1) (GI_set (GI_set hG (by decide) (by decide) eS4) (by decide) (by decide) eS6)) kM_140 ⟨Nat.le_of_ble_eq_true rfl, Nat.le_of_ble_eq_true rfl⟩ rfl rfl (kk := 4) (ii := 0) rfl rfl rfl hl.1 rfl (Nat.le_of_ble_eq_true rfl) dX4_turn_66 ⟨Nat.zero_le _, Nat.zero_le _⟩ (fun H locs hI => ?_)
          rw [← eS10] at hI
          exact hJ8 S10 _ _ (by subst eS10; exact (if_pos c9).symm) hI
      refine lv_if_ne (tgt := 54) hx hb dX4_turn_47 (by decide) (fun c11 => ?_) (fun c11 => ?_)
      · refine lv_iconst (v := 0) hx hb dX4_turn_54 (by decide) ?_
        have eb12 : (0 : Int32) = bI ((S4.1 22 uv.toNatClampNeg) = 0) := (bI_f c11).symm
        rw [eb12]
        exact hJ5
      · refine lv_iconst (v := 1) hx hb dX4_turn_50 (by decide) ?_
        refine lv_goto (tgt := 55) hx hb dX4_turn_51 (by decide) ?_
        have eb13 : (1 : Int32) = bI ((S4.1 22 uv.toNatClampNeg) = 0) := (bI_t c11).symm
        rw [eb13]
        exact hJ5
  · refine lv_iconst (v := 1) hx hb dX4_turn_9 (by decide) ?_
    refine lv_goto (tgt := 28) hx hb dX4_turn_10 (by decide) ?_
    obtain ⟨S14, eS14⟩ : ∃ z : MS, z = mset S 29 0 1 := ⟨_, rfl⟩
    refine cVv (rest := []) hx hb hml hts hown hK hE hI (cM_fails1 G ad S) kM_101 ⟨Nat.le_of_ble_eq_true rfl, Nat.le_of_ble_eq_true rfl⟩ rfl rfl (kk := 4) (ii := 0) rfl rfl rfl hl.1 rfl (Nat.le_of_ble_eq_true rfl) dX4_turn_28 ⟨Nat.zero_le _, Nat.zero_le _⟩ (fun H locs hI => ?_)
    rw [← eS14] at hI
    refine lv_if_eq (tgt := 36) hx hb dX4_turn_31 (by decide) (fun h => absurd h (by decide)) (fun _ => ?_)
    refine lv_iconst (v := 0) hx hb dX4_turn_34 (by decide) ?_
    have HE : M_turn S uv = (0, S14) := by subst eS14; exact (if_neg c1)
    exact rt_z hx hb hr hlocks (by decide) hI hA hQ ⟨by rw [HE], by rw [HE]⟩ (Nat.zero_le _) (Nat.zero_le _) dX4_turn_35

def M_freezes (S : MS) (up : Int32) : MS :=
  let x1 := if (S.1 9 up.toNatClampNeg) ≤ (2 * (S.1 1 0)) then (S.1 9 up.toNatClampNeg) else (2 * (S.1 1 0))
  let S3 := mset S 9 up.toNatClampNeg ((S.1 9 up.toNatClampNeg) - x1)
  let S4 := mset S3 8 up.toNatClampNeg ((S3.1 8 up.toNatClampNeg) + x1)
  let S5 := if (S4.1 9 up.toNatClampNeg) = 0 then (mset S4 7 up.toNatClampNeg ((S4.1 7 up.toNatClampNeg) + (if 0 ≤ (((400 * (S4.1 1 0)) / ((((S4.1 7 up.toNatClampNeg) + (S4.1 8 up.toNatClampNeg)) + (4 * (S4.1 10 up.toNatClampNeg))) + 50)) - (if (S4.1 4 up.toNatClampNeg) = 1 then 2 else 0)) then (((400 * (S4.1 1 0)) / ((((S4.1 7 up.toNatClampNeg) + (S4.1 8 up.toNatClampNeg)) + (4 * (S4.1 10 up.toNatClampNeg))) + 50)) - (if (S4.1 4 up.toNatClampNeg) = 1 then 2 else 0)) else 0))) else S4
  let S7 := if (S5.1 1 0) < 40 then (if (S5.1 1 0) < 10 then S5 else (mset S5 11 up.toNatClampNeg (bI ((S5.1 11 up.toNatClampNeg) = 2)))) else (mset S5 11 up.toNatClampNeg (if (S5.1 11 up.toNatClampNeg) = 0 then 1 else (S5.1 11 up.toNatClampNeg)))
  S7
set_option maxHeartbeats 4000000 in
set_option maxRecDepth 100000 in
theorem cM_freezes (G : GX) (ad : Nat → Nat) (S : MS) (up : Int32) (hp : vp_in up 10) (hden : ¬ (((S.1 7 up.toNatClampNeg + (S.1 8 up.toNatClampNeg + (if S.1 9 up.toNatClampNeg ≤ 2 * S.1 1 0 then S.1 9 up.toNatClampNeg else 2 * S.1 1 0))) + 4 * S.1 10 up.toNatClampNeg) + 50 = 0)) : FC G yX4_freezes cX4_freezes 4 none ({ frames := 0, cells := 0, slots := 0, locals := 0 }) [.ref (ad 0), .int up] (mW G.2.2.2 ad S) (p0 (mW G.2.2.2 ad (M_freezes S up))) := by
  refine FC.go (lv := [(0, .ref (ad 0)), (1, .int up)]) (by decide) (Nat.le_of_ble_eq_true rfl) rfl (fun p e s m args below meth c A H locs ls Q hx hb hr hts hown hml hlocks hnm hK hE hI hA hl hQ => ?_)
  have hown : s.vm.findClass RX4 = some m.cls := hown
  refine lv_iconst (v := 2) hx hb dX4_freezes_0 (by decide) ?_
  refine lv_aload_n hx hb dX4_freezes_1 rfl (lv_at hl 0 rfl) ?_
  refine gM_106 hx hb hts hown hK hI dX4_freezes_2 ?_
  refine lv_imul hx hb dX4_freezes_5 ?_
  refine lv_aload_n hx hb dX4_freezes_6 rfl (lv_at hl 0 rfl) ?_
  refine gM_29 hx hb hts hown hK hI dX4_freezes_7 ?_
  refine lv_iload_n hx hb dX4_freezes_10 rfl (lv_at hl 1 rfl) ?_
  refine lM_9 hx hb hK hI hp dX4_freezes_11 ?_
  have hJ2 : ∀ (x1 : Int32), (x1 = if (S.1 9 up.toNatClampNeg) ≤ (2 * (S.1 1 0)) then (S.1 9 up.toNatClampNeg) else (2 * (S.1 1 0))) → W p G.1 e ({ frames := 0, cells := 0, slots := 0, locals := 0 }) s m args below meth c H locs 0 0 Q (F0 m 30 ls [.int x1]) := by
    intro x1 ex1
    refine lv_istore_n (lv' := [(2, .int x1), (0, .ref (ad 0)), (1, .int up)]) hx hb dX4_freezes_30 rfl hl (by decide) rfl (fun ls hl => ?_)
    refine lv_aload_n hx hb dX4_freezes_31 rfl (lv_at hl 1 rfl) ?_
    refine gM_29 hx hb hts hown hK hI dX4_freezes_32 ?_
    refine lv_iload_n hx hb dX4_freezes_35 rfl (lv_at hl 2 rfl) ?_
    refine lv_dup2_11 hx hb dX4_freezes_36 rfl rfl ?_
    refine lM_9 hx hb hK hI hp dX4_freezes_37 ?_
    refine lv_iload_n hx hb dX4_freezes_38 rfl (lv_at hl 0 rfl) ?_
    refine lv_isub hx hb dX4_freezes_39 ?_
    obtain ⟨S3, eS3⟩ : ∃ z : MS, z = mset S 9 up.toNatClampNeg ((S.1 9 up.toNatClampNeg) - x1) := ⟨_, rfl⟩
    refine sM_9 hx hb hK hI hp eS3 dX4_freezes_40 (fun H locs hI => ?_)
    refine lv_aload_n hx hb dX4_freezes_41 rfl (lv_at hl 1 rfl) ?_
    refine gM_26 hx hb hts hown hK hI dX4_freezes_42 ?_
    refine lv_iload_n hx hb dX4_freezes_45 rfl (lv_at hl 2 rfl) ?_
    refine lv_dup2_11 hx hb dX4_freezes_46 rfl rfl ?_
    refine lM_8 hx hb hK hI hp dX4_freezes_47 ?_
    refine lv_iload_n hx hb dX4_freezes_48 rfl (lv_at hl 0 rfl) ?_
    refine lv_iadd hx hb dX4_freezes_49 ?_
    obtain ⟨S4, eS4⟩ : ∃ z : MS, z = mset S3 8 up.toNatClampNeg ((S3.1 8 up.toNatClampNeg) + x1) := ⟨_, rfl⟩
    refine sM_8 hx hb hK hI hp eS4 dX4_freezes_50 (fun H locs hI => ?_)
    refine lv_aload_n hx hb dX4_freezes_51 rfl (lv_at hl 1 rfl) ?_
    refine gM_29 hx hb hts hown hK hI dX4_freezes_52 ?_
    refine lv_iload_n hx hb dX4_freezes_55 rfl (lv_at hl 2 rfl) ?_
    refine lM_9 hx hb hK hI hp dX4_freezes_56 ?_
    have hJ6 : ∀ (S5 : MS) (H : Heap) (locs : List Loc) (ls : Array Slot), (S5 = if (S4.1 9 up.toNatClampNeg) = 0 then (mset S4 7 up.toNatClampNeg ((S4.1 7 up.toNatClampNeg) + (if 0 ≤ (((400 * (S4.1 1 0)) / ((((S4.1 7 up.toNatClampNeg) + (S4.1 8 up.toNatClampNeg)) + (4 * (S4.1 10 up.toNatClampNeg))) + 50)) - (if (S4.1 4 up.toNatClampNeg) = 1 then 2 else 0)) then (((400 * (S4.1 1 0)) / ((((S4.1 7 up.toNatClampNeg) + (S4.1 8 up.toNatClampNeg)) + (4 * (S4.1 10 up.toNatClampNeg))) + 50)) - (if (S4.1 4 up.toNatClampNeg) = 1 then 2 else 0)) else 0))) else S4) → (fI G.2.2.1 A s.heap (mW G.2.2.2 ad S5) H locs) → (lv_has ls 4 [(2, .int x1), (0, .ref (ad 0)), (1, .int up)]) → W p G.1 e ({ frames := 0, cells := 0, slots := 0, locals := 0 }) s m args below meth c H locs 0 0 Q (F0 m 131 ls []) := by
      intro S5 H locs ls eS5 hI hl
      refine lv_aload_n hx hb dX4_freezes_131 rfl (lv_at hl 1 rfl) ?_
      refine gM_106 hx hb hts hown hK hI dX4_freezes_132 ?_
      refine lv_bipush (v := 40) hx hb dX4_freezes_135 (by decide) ?_
      have hJ8 : ∀ (S7 : MS) (H : Heap) (locs : List Loc), (S7 = if (S5.1 1 0) < 40 then (if (S5.1 1 0) < 10 then S5 else (mset S5 11 up.toNatClampNeg (bI ((S5.1 11 up.toNatClampNeg) = 2)))) else (mset S5 11 up.toNatClampNeg (if (S5.1 11 up.toNatClampNeg) = 0 then 1 else (S5.1 11 up.toNatClampNeg)))) → (fI G.2.2.1 A s.heap (mW G.2.2.2 ad S7) H locs) → W p G.1 e ({ frames := 0, cells := 0, slots := 0, locals := 0 }) s m args below meth c H locs 0 0 Q (F0 m 198 ls []) := by
        intro S7 H locs eS7 hI
        have HE : M_freezes S up = S7 := by subst eS7 eS5 eS4 eS3 ex1; exact rfl
        exact rt_v hx hb hr hlocks hI hA hQ ⟨rfl, by rw [HE]⟩ (Nat.zero_le _) (Nat.zero_le _) dX4_freezes_198
      refine lv_icmp_lt (tgt := 168) hx hb dX4_freezes_137 (by decide) (fun c9 => ?_) (fun c9 => ?_)
      · refine lv_aload_n hx hb dX4_freezes_168 rfl (lv_at hl 1 rfl) ?_
        refine gM_106 hx hb hts hown hK hI dX4_freezes_169 ?_
        refine lv_bipush (v := 10) hx hb dX4_freezes_172 (by decide) ?_
        refine lv_icmp_lt (tgt := 198) hx hb dX4_freezes_174 (by decide) (fun c10 => ?_) (fun c10 => ?_)
        · exact hJ8 S5 _ _ (by exact ((if_pos c9).trans (if_pos c10)).symm) hI
        · refine lv_aload_n hx hb dX4_freezes_177 rfl (lv_at hl 1 rfl) ?_
          refine gM_35 hx hb hts hown hK hI dX4_freezes_178 ?_
          refine lv_iload_n hx hb dX4_freezes_181 rfl (lv_at hl 2 rfl) ?_
          refine lv_aload_n hx hb dX4_freezes_182 rfl (lv_at hl 1 rfl) ?_
          refine gM_35 hx hb hts hown hK hI dX4_freezes_183 ?_
          refine lv_iload_n hx hb dX4_freezes_186 rfl (lv_at hl 2 rfl) ?_
          refine lM_11 hx hb hK hI hp dX4_freezes_187 ?_
          refine lv_iconst (v := 2) hx hb dX4_freezes_188 (by decide) ?_
          have hJ11 : W p G.1 e ({ frames := 0, cells := 0, slots := 0, locals := 0 }) s m args below meth c H locs 0 0 Q (F0 m 197 ls [.int (bI ((S5.1 11 up.toNatClampNeg) = 2)), .int up, .ref (ad 11)]) := by
            obtain ⟨S12, eS12⟩ : ∃ z : MS, z = mset S5 11 up.toNatClampNeg (bI ((S5.1 11 up.toNatClampNeg) = 2)) := ⟨_, rfl⟩
            refine sM_11 hx hb hK hI hp eS12 dX4_freezes_197 (fun H locs hI => ?_)
            exact hJ8 S12 _ _ (by subst eS12; exact ((if_pos c9).trans (if_neg c10)).symm) hI
          refine lv_icmp_ne (tgt := 196) hx hb dX4_freezes_189 (by decide) (fun c13 => ?_) (fun c13 => ?_)
          · refine lv_iconst (v := 0) hx hb dX4_freezes_196 (by decide) ?_
            have eb14 : (0 : Int32) = bI ((S5.1 11 up.toNatClampNeg) = 2) := (bI_f c13).symm
            rw [eb14]
            exact hJ11
          · refine lv_iconst (v := 1) hx hb dX4_freezes_192 (by decide) ?_
            refine lv_goto (tgt := 197) hx hb dX4_freezes_193 (by decide) ?_
            have eb15 : (1 : Int32) = bI ((S5.1 11 up.toNatClampNeg) = 2) := (bI_t c13).symm
            rw [eb15]
            exact hJ11
      · refine lv_aload_n hx hb dX4_freezes_140 rfl (lv_at hl 1 rfl) ?_
        refine gM_35 hx hb hts hown hK hI dX4_freezes_141 ?_
        refine lv_iload_n hx hb dX4_freezes_144 rfl (lv_at hl 2 rfl) ?_
        refine lv_aload_n hx hb dX4_freezes_145 rfl (lv_at hl 1 rfl) ?_
        refine gM_35 hx hb hts hown hK hI dX4_freezes_146 ?_
        refine lv_iload_n hx hb dX4_freezes_149 rfl (lv_at hl 2 rfl) ?_
        refine lM_11 hx hb hK hI hp dX4_freezes_150 ?_
        have hJ17 : ∀ (x16 : Int32), (x16 = if (S5.1 11 up.toNatClampNeg) = 0 then 1 else (S5.1 11 up.toNatClampNeg)) → W p G.1 e ({ frames := 0, cells := 0, slots := 0, locals := 0 }) s m args below meth c H locs 0 0 Q (F0 m 164 ls [.int x16, .int up, .ref (ad 11)]) := by
          intro x16 ex16
          obtain ⟨S18, eS18⟩ : ∃ z : MS, z = mset S5 11 up.toNatClampNeg x16 := ⟨_, rfl⟩
          refine sM_11 hx hb hK hI hp eS18 dX4_freezes_164 (fun H locs hI => ?_)
          refine lv_goto (tgt := 198) hx hb dX4_freezes_165 (by decide) ?_
          exact hJ8 S18 _ _ (by subst eS18 ex16; exact (if_neg c9).symm) hI
        refine lv_if_ne (tgt := 158) hx hb dX4_freezes_151 (by decide) (fun c19 => ?_) (fun c19 => ?_)
        · refine lv_aload_n hx hb dX4_freezes_158 rfl (lv_at hl 1 rfl) ?_
          refine gM_35 hx hb hts hown hK hI dX4_freezes_159 ?_
          refine lv_iload_n hx hb dX4_freezes_162 rfl (lv_at hl 2 rfl) ?_
          refine lM_11 hx hb hK hI hp dX4_freezes_163 ?_
          exact hJ17 (S5.1 11 up.toNatClampNeg) (by exact (if_neg c19).symm)
        · refine lv_iconst (v := 1) hx hb dX4_freezes_154 (by decide) ?_
          refine lv_goto (tgt := 164) hx hb dX4_freezes_155 (by decide) ?_
          exact hJ17 1 (by exact (if_pos c19).symm)
    refine lv_if_ne (tgt := 131) hx hb dX4_freezes_57 (by decide) (fun c20 => ?_) (fun c20 => ?_)
    · exact hJ6 S4 _ _ _ (by exact (if_neg c20).symm) hI (lv_sub hl [0, 1, 2] rfl)
    · refine lv_sipush (v := 400) hx hb dX4_freezes_60 (by decide) ?_
      refine lv_aload_n hx hb dX4_freezes_63 rfl (lv_at hl 1 rfl) ?_
      refine gM_106 hx hb hts hown hK hI dX4_freezes_64 ?_
      refine lv_imul hx hb dX4_freezes_67 ?_
      refine lv_aload_n hx hb dX4_freezes_68 rfl (lv_at hl 1 rfl) ?_
      refine gM_23 hx hb hts hown hK hI dX4_freezes_69 ?_
      refine lv_iload_n hx hb dX4_freezes_72 rfl (lv_at hl 2 rfl) ?_
      refine lM_7 hx hb hK hI hp dX4_freezes_73 ?_
      refine lv_aload_n hx hb dX4_freezes_74 rfl (lv_at hl 1 rfl) ?_
      refine gM_26 hx hb hts hown hK hI dX4_freezes_75 ?_
      refine lv_iload_n hx hb dX4_freezes_78 rfl (lv_at hl 2 rfl) ?_
      refine lM_8 hx hb hK hI hp dX4_freezes_79 ?_
      refine lv_iadd hx hb dX4_freezes_80 ?_
      refine lv_iconst (v := 4) hx hb dX4_freezes_81 (by decide) ?_
      refine lv_aload_n hx hb dX4_freezes_82 rfl (lv_at hl 1 rfl) ?_
      refine gM_32 hx hb hts hown hK hI dX4_freezes_83 ?_
      refine lv_iload_n hx hb dX4_freezes_86 rfl (lv_at hl 2 rfl) ?_
      refine lM_10 hx hb hK hI hp dX4_freezes_87 ?_
      refine lv_imul hx hb dX4_freezes_88 ?_
      refine lv_iadd hx hb dX4_freezes_89 ?_
      refine lv_bipush (v := 50) hx hb dX4_freezes_90 (by decide) ?_
      refine lv_iadd hx hb dX4_freezes_92 ?_
      refine lv_idiv hx hb dX4_freezes_93 (fz_den eS3 eS4 (by rw [ex1]; exact hden)) ?_
      refine lv_istore_n (lv' := [(3, .int ((400 * (S4.1 1 0)) / ((((S4.1 7 up.toNatClampNeg) + (S4.1 8 up.toNatClampNeg)) + (4 * (S4.1 10 up.toNatClampNeg))) + 50))), (2, .int x1), (0, .ref (ad 0)), (1, .int up)]) hx hb dX4_freezes_94 rfl hl (by decide) rfl (fun ls hl => ?_)
      refine lv_iload_n hx hb dX4_freezes_95 rfl (lv_at hl 0 rfl) ?_
      refine lv_aload_n hx hb dX4_freezes_96 rfl (lv_at hl 2 rfl) ?_
      refine gM_13 hx hb hts hown hK hI dX4_freezes_97 ?_
      refine lv_iload_n hx hb dX4_freezes_100 rfl (lv_at hl 3 rfl) ?_
      refine lM_4 hx hb hK hI hp dX4_freezes_101 ?_
      refine lv_iconst (v := 1) hx hb dX4_freezes_102 (by decide) ?_
      have hJ22 : ∀ (x21 : Int32), (x21 = if (S4.1 4 up.toNatClampNeg) = 1 then 2 else 0) → W p G.1 e ({ frames := 0, cells := 0, slots := 0, locals := 0 }) s m args below meth c H locs 0 0 Q (F0 m 111 ls [.int x21, .int ((400 * (S4.1 1 0)) / ((((S4.1 7 up.toNatClampNeg) + (S4.1 8 up.toNatClampNeg)) + (4 * (S4.1 10 up.toNatClampNeg))) + 50))]) := by
        intro x21 ex21
        refine lv_isub hx hb dX4_freezes_111 ?_
        refine lv_istore_n (lv' := [(3, .int (((400 * (S4.1 1 0)) / ((((S4.1 7 up.toNatClampNeg) + (S4.1 8 up.toNatClampNeg)) + (4 * (S4.1 10 up.toNatClampNeg))) + 50)) - x21)), (2, .int x1), (0, .ref (ad 0)), (1, .int up)]) hx hb dX4_freezes_112 rfl hl (by decide) rfl (fun ls hl => ?_)
        refine lv_aload_n hx hb dX4_freezes_113 rfl (lv_at hl 2 rfl) ?_
        refine gM_23 hx hb hts hown hK hI dX4_freezes_114 ?_
        refine lv_iload_n hx hb dX4_freezes_117 rfl (lv_at hl 3 rfl) ?_
        refine lv_dup2_11 hx hb dX4_freezes_118 rfl rfl ?_
        refine lM_7 hx hb hK hI hp dX4_freezes_119 ?_
        refine lv_iload_n hx hb dX4_freezes_120 rfl (lv_at hl 0 rfl) ?_
        have hJ24 : ∀ (x23 : Int32), (x23 = if 0 ≤ (((400 * (S4.1 1 0)) / ((((S4.1 7 up.toNatClampNeg) + (S4.1 8 up.toNatClampNeg)) + (4 * (S4.1 10 up.toNatClampNeg))) + 50)) - x21) then (((400 * (S4.1 1 0)) / ((((S4.1 7 up.toNatClampNeg) + (S4.1 8 up.toNatClampNeg)) + (4 * (S4.1 10 up.toNatClampNeg))) + 50)) - x21) else 0) → W p G.1 e ({ frames := 0, cells := 0, slots := 0, locals := 0 }) s m args below meth c H locs 0 0 Q (F0 m 129 ls [.int x23, .int (S4.1 7 up.toNatClampNeg), .int up, .ref (ad 7)]) := by
          intro x23 ex23
          refine lv_iadd hx hb dX4_freezes_129 ?_
          obtain ⟨S25, eS25⟩ : ∃ z : MS, z = mset S4 7 up.toNatClampNeg ((S4.1 7 up.toNatClampNeg) + x23) := ⟨_, rfl⟩
          refine sM_7 hx hb hK hI hp eS25 dX4_freezes_130 (fun H locs hI => ?_)
          exact hJ6 S25 _ _ _ (by subst eS25 ex23 ex21; exact (if_pos c20).symm) hI (lv_sub hl [1, 2, 3] rfl)
        refine lv_if_ge (tgt := 128) hx hb dX4_freezes_121 (by decide) (fun c26 => ?_) (fun c26 => ?_)
        · refine lv_iload_n hx hb dX4_freezes_128 rfl (lv_at hl 0 rfl) ?_
          exact hJ24 (((400 * (S4.1 1 0)) / ((((S4.1 7 up.toNatClampNeg) + (S4.1 8 up.toNatClampNeg)) + (4 * (S4.1 10 up.toNatClampNeg))) + 50)) - x21) (by exact (if_pos c26).symm)
        · refine lv_iconst (v := 0) hx hb dX4_freezes_124 (by decide) ?_
          refine lv_goto (tgt := 129) hx hb dX4_freezes_125 (by decide) ?_
          exact hJ24 0 (by exact (if_neg c26).symm)
      refine lv_icmp_ne (tgt := 110) hx hb dX4_freezes_103 (by decide) (fun c27 => ?_) (fun c27 => ?_)
      · refine lv_iconst (v := 0) hx hb dX4_freezes_110 (by decide) ?_
        exact hJ22 0 (by exact (if_neg c27).symm)
      · refine lv_iconst (v := 2) hx hb dX4_freezes_106 (by decide) ?_
        refine lv_goto (tgt := 111) hx hb dX4_freezes_107 (by decide) ?_
        exact hJ22 2 (by exact (if_pos c27).symm)
  refine lv_icmp_ge (tgt := 24) hx hb dX4_freezes_12 (by decide) (fun c28 => ?_) (fun c28 => ?_)
  · refine lv_aload_n hx hb dX4_freezes_24 rfl (lv_at hl 0 rfl) ?_
    refine gM_29 hx hb hts hown hK hI dX4_freezes_25 ?_
    refine lv_iload_n hx hb dX4_freezes_28 rfl (lv_at hl 1 rfl) ?_
    refine lM_9 hx hb hK hI hp dX4_freezes_29 ?_
    exact hJ2 (S.1 9 up.toNatClampNeg) (by exact (if_pos c28).symm)
  · refine lv_iconst (v := 2) hx hb dX4_freezes_15 (by decide) ?_
    refine lv_aload_n hx hb dX4_freezes_16 rfl (lv_at hl 0 rfl) ?_
    refine gM_106 hx hb hts hown hK hI dX4_freezes_17 ?_
    refine lv_imul hx hb dX4_freezes_20 ?_
    refine lv_goto (tgt := 30) hx hb dX4_freezes_21 (by decide) ?_
    exact hJ2 (2 * (S.1 1 0)) (by exact (if_neg c28).symm)

def M_thaws (S : MS) (up : Int32) : MS :=
  let x1 := if (S.1 10 up.toNatClampNeg) ≤ ((-6) * (S.1 1 0)) then (S.1 10 up.toNatClampNeg) else ((-6) * (S.1 1 0))
  let S3 := mset S 10 up.toNatClampNeg ((S.1 10 up.toNatClampNeg) - x1)
  let x4 := if (S3.1 8 up.toNatClampNeg) ≤ (((-6) * (S.1 1 0)) - x1) then (S3.1 8 up.toNatClampNeg) else (((-6) * (S.1 1 0)) - x1)
  let S6 := mset S3 8 up.toNatClampNeg ((S3.1 8 up.toNatClampNeg) - x4)
  let x7 := if (S6.1 7 up.toNatClampNeg) ≤ ((((-6) * (S.1 1 0)) - x1) - x4) then (S6.1 7 up.toNatClampNeg) else ((((-6) * (S.1 1 0)) - x1) - x4)
  let S9 := mset S6 7 up.toNatClampNeg ((S6.1 7 up.toNatClampNeg) - x7)
  if 0 ≤ (Op.cmpValue (FP.dcmp (FP.dsub ((S9.2 up.toNatClampNeg).1) (FP.dadd (FP.i2d x7) (FP.dmul (4602678819172646912 : UInt64) (FP.i2d x4)))) FP.dconst0) CmpOp.g) then
    let S11 := mkset S9 up.toNatClampNeg ⟨FP.dsub ((S9.2 up.toNatClampNeg).1) (FP.dadd (FP.i2d x7) (FP.dmul (4602678819172646912 : UInt64) (FP.i2d x4))), nn_less (S9.2 up.toNatClampNeg).2 _ _⟩
    let x12 := if (S11.1 11 up.toNatClampNeg) = 1 then 2 else (S11.1 11 up.toNatClampNeg)
    let S14 := mset S11 11 up.toNatClampNeg x12
    S14
  else
    let S16 := mkset S9 up.toNatClampNeg ⟨FP.dconst0, nn_0⟩
    let x17 := if (S16.1 11 up.toNatClampNeg) = 1 then 2 else (S16.1 11 up.toNatClampNeg)
    let S19 := mset S16 11 up.toNatClampNeg x17
    S19
set_option maxHeartbeats 4000000 in
set_option maxRecDepth 100000 in
theorem cM_thaws (G : GX) (ad : Nat → Nat) (S : MS) (up : Int32) (hp : vp_in up 10) : FC G yX4_thaws cX4_thaws 8 none ({ frames := 0, cells := 0, slots := 0, locals := 0 }) [.ref (ad 0), .int up] (mW G.2.2.2 ad S) (p0 (mW G.2.2.2 ad (M_thaws S up))) := by
  refine FC.go (lv := [(0, .ref (ad 0)), (1, .int up)]) (by decide) (Nat.le_of_ble_eq_true rfl) rfl (fun p e s m args below meth c A H locs ls Q hx hb hr hts hown hml hlocks hnm hK hE hI hA hl hQ => ?_)
  have hown : s.vm.findClass RX4 = some m.cls := hown
  refine lv_bipush (v := -6) hx hb dX4_thaws_0 (by decide) ?_
  refine lv_aload_n hx hb dX4_thaws_2 rfl (lv_at hl 0 rfl) ?_
  refine gM_106 hx hb hts hown hK hI dX4_thaws_3 ?_
  refine lv_imul hx hb dX4_thaws_6 ?_
  refine lv_istore_n (lv' := [(2, .int ((-6) * (S.1 1 0))), (0, .ref (ad 0)), (1, .int up)]) hx hb dX4_thaws_7 rfl hl (by decide) rfl (fun ls hl => ?_)
  refine lv_iload_n hx hb dX4_thaws_8 rfl (lv_at hl 0 rfl) ?_
  refine lv_aload_n hx hb dX4_thaws_9 rfl (lv_at hl 1 rfl) ?_
  refine gM_32 hx hb hts hown hK hI dX4_thaws_10 ?_
  refine lv_iload_n hx hb dX4_thaws_13 rfl (lv_at hl 2 rfl) ?_
  refine lM_10 hx hb hK hI hp dX4_thaws_14 ?_
  have hJ2 : ∀ (x1 : Int32), (x1 = if (S.1 10 up.toNatClampNeg) ≤ ((-6) * (S.1 1 0)) then (S.1 10 up.toNatClampNeg) else ((-6) * (S.1 1 0))) → W p G.1 e ({ frames := 0, cells := 0, slots := 0, locals := 0 }) s m args below meth c H locs 0 0 Q (F0 m 28 ls [.int x1]) := by
    intro x1 ex1
    refine lv_istore_n (lv' := [(3, .int x1), (2, .int ((-6) * (S.1 1 0))), (0, .ref (ad 0)), (1, .int up)]) hx hb dX4_thaws_28 rfl hl (by decide) rfl (fun ls hl => ?_)
    refine lv_aload_n hx hb dX4_thaws_29 rfl (lv_at hl 2 rfl) ?_
    refine gM_32 hx hb hts hown hK hI dX4_thaws_30 ?_
    refine lv_iload_n hx hb dX4_thaws_33 rfl (lv_at hl 3 rfl) ?_
    refine lv_dup2_11 hx hb dX4_thaws_34 rfl rfl ?_
    refine lM_10 hx hb hK hI hp dX4_thaws_35 ?_
    refine lv_iload_n hx hb dX4_thaws_36 rfl (lv_at hl 0 rfl) ?_
    refine lv_isub hx hb dX4_thaws_37 ?_
    obtain ⟨S3, eS3⟩ : ∃ z : MS, z = mset S 10 up.toNatClampNeg ((S.1 10 up.toNatClampNeg) - x1) := ⟨_, rfl⟩
    refine sM_10 hx hb hK hI hp eS3 dX4_thaws_38 (fun H locs hI => ?_)
    refine lv_iload_n hx hb dX4_thaws_39 rfl (lv_at hl 1 rfl) ?_
    refine lv_iload_n hx hb dX4_thaws_40 rfl (lv_at hl 0 rfl) ?_
    refine lv_isub hx hb dX4_thaws_41 ?_
    refine lv_istore_n (lv' := [(2, .int (((-6) * (S.1 1 0)) - x1)), (3, .int x1), (0, .ref (ad 0)), (1, .int up)]) hx hb dX4_thaws_42 rfl hl (by decide) rfl (fun ls hl => ?_)
    refine lv_iload_n hx hb dX4_thaws_43 rfl (lv_at hl 0 rfl) ?_
    refine lv_aload_n hx hb dX4_thaws_44 rfl (lv_at hl 2 rfl) ?_
    refine gM_26 hx hb hts hown hK hI dX4_thaws_45 ?_
    refine lv_iload_n hx hb dX4_thaws_48 rfl (lv_at hl 3 rfl) ?_
    refine lM_8 hx hb hK hI hp dX4_thaws_49 ?_
    have hJ5 : ∀ (x4 : Int32), (x4 = if (S3.1 8 up.toNatClampNeg) ≤ (((-6) * (S.1 1 0)) - x1) then (S3.1 8 up.toNatClampNeg) else (((-6) * (S.1 1 0)) - x1)) → W p G.1 e ({ frames := 0, cells := 0, slots := 0, locals := 0 }) s m args below meth c H locs 0 0 Q (F0 m 63 ls [.int x4]) := by
      intro x4 ex4
      refine lv_istore (lv' := [(4, .int x4), (2, .int (((-6) * (S.1 1 0)) - x1)), (3, .int x1), (0, .ref (ad 0)), (1, .int up)]) hx hb dX4_thaws_63 hl (by decide) rfl (fun ls hl => ?_)
      refine lv_aload_n hx hb dX4_thaws_65 rfl (lv_at hl 3 rfl) ?_
      refine gM_26 hx hb hts hown hK hI dX4_thaws_66 ?_
      refine lv_iload_n hx hb dX4_thaws_69 rfl (lv_at hl 4 rfl) ?_
      refine lv_dup2_11 hx hb dX4_thaws_70 rfl rfl ?_
      refine lM_8 hx hb hK hI hp dX4_thaws_71 ?_
      refine lv_iload hx hb dX4_thaws_72 (lv_at hl 0 rfl) ?_
      refine lv_isub hx hb dX4_thaws_74 ?_
      obtain ⟨S6, eS6⟩ : ∃ z : MS, z = mset S3 8 up.toNatClampNeg ((S3.1 8 up.toNatClampNeg) - x4) := ⟨_, rfl⟩
      refine sM_8 hx hb hK hI hp eS6 dX4_thaws_75 (fun H locs hI => ?_)
      refine lv_iload_n hx hb dX4_thaws_76 rfl (lv_at hl 1 rfl) ?_
      refine lv_iload hx hb dX4_thaws_77 (lv_at hl 0 rfl) ?_
      refine lv_isub hx hb dX4_thaws_79 ?_
      refine lv_istore_n (lv' := [(2, .int ((((-6) * (S.1 1 0)) - x1) - x4)), (4, .int x4), (3, .int x1), (0, .ref (ad 0)), (1, .int up)]) hx hb dX4_thaws_80 rfl hl (by decide) rfl (fun ls hl => ?_)
      refine lv_iload_n hx hb dX4_thaws_81 rfl (lv_at hl 0 rfl) ?_
      refine lv_aload_n hx hb dX4_thaws_82 rfl (lv_at hl 3 rfl) ?_
      refine gM_23 hx hb hts hown hK hI dX4_thaws_83 ?_
      refine lv_iload_n hx hb dX4_thaws_86 rfl (lv_at hl 4 rfl) ?_
      refine lM_7 hx hb hK hI hp dX4_thaws_87 ?_
      have hJ8 : ∀ (x7 : Int32), (x7 = if (S6.1 7 up.toNatClampNeg) ≤ ((((-6) * (S.1 1 0)) - x1) - x4) then (S6.1 7 up.toNatClampNeg) else ((((-6) * (S.1 1 0)) - x1) - x4)) → W p G.1 e ({ frames := 0, cells := 0, slots := 0, locals := 0 }) s m args below meth c H locs 0 0 Q (F0 m 101 ls [.int x7]) := by
        intro x7 ex7
        refine lv_istore (lv' := [(5, .int x7), (2, .int ((((-6) * (S.1 1 0)) - x1) - x4)), (4, .int x4), (3, .int x1), (0, .ref (ad 0)), (1, .int up)]) hx hb dX4_thaws_101 hl (by decide) rfl (fun ls hl => ?_)
        refine lv_aload_n hx hb dX4_thaws_103 rfl (lv_at hl 4 rfl) ?_
        refine gM_23 hx hb hts hown hK hI dX4_thaws_104 ?_
        refine lv_iload_n hx hb dX4_thaws_107 rfl (lv_at hl 5 rfl) ?_
        refine lv_dup2_11 hx hb dX4_thaws_108 rfl rfl ?_
        refine lM_7 hx hb hK hI hp dX4_thaws_109 ?_
        refine lv_iload hx hb dX4_thaws_110 (lv_at hl 0 rfl) ?_
        refine lv_isub hx hb dX4_thaws_112 ?_
        obtain ⟨S9, eS9⟩ : ∃ z : MS, z = mset S6 7 up.toNatClampNeg ((S6.1 7 up.toNatClampNeg) - x7) := ⟨_, rfl⟩
        refine sM_7 hx hb hK hI hp eS9 dX4_thaws_113 (fun H locs hI => ?_)
        refine lv_aload_n hx hb dX4_thaws_114 rfl (lv_at hl 4 rfl) ?_
        refine gM_44 hx hb hts hown hK hI dX4_thaws_115 ?_
        refine lv_iload_n hx hb dX4_thaws_118 rfl (lv_at hl 5 rfl) ?_
        refine lM_14 hx hb hK hI hp dX4_thaws_119 ?_
        refine lv_iload hx hb dX4_thaws_120 (lv_at hl 0 rfl) ?_
        refine lv_i2d hx hb dX4_thaws_122 ?_
        refine lv_ldc2d (v := 4602678819172646912) hx hb hown (hts _ q898) dX4_thaws_123 ?_
        refine lv_iload hx hb dX4_thaws_126 (lv_at hl 2 rfl) ?_
        refine lv_i2d hx hb dX4_thaws_128 ?_
        refine lv_dmul hx hb dX4_thaws_129 (nn_half _) ?_
        refine lv_dadd hx hb dX4_thaws_130 (nn_thick _ _) ?_
        refine lv_dsub hx hb dX4_thaws_131 (nn_less (S9.2 up.toNatClampNeg).2 _ _) ?_
        refine lv_dstore (lv' := [(6, .double (FP.dsub ((S9.2 up.toNatClampNeg).1) (FP.dadd (FP.i2d x7) (FP.dmul (4602678819172646912 : UInt64) (FP.i2d x4))))), (5, .int x7), (2, .int ((((-6) * (S.1 1 0)) - x1) - x4)), (4, .int x4), (3, .int x1), (0, .ref (ad 0)), (1, .int up)]) hx hb dX4_thaws_132 hl (by decide) rfl (fun ls hl => ?_)
        refine lv_aload_n hx hb dX4_thaws_134 rfl (lv_at hl 5 rfl) ?_
        refine gM_44 hx hb hts hown hK hI dX4_thaws_135 ?_
        refine lv_iload_n hx hb dX4_thaws_138 rfl (lv_at hl 6 rfl) ?_
        refine lv_dload hx hb dX4_thaws_139 (lv_at hl 0 rfl) ?_
        refine lv_dconst0 hx hb dX4_thaws_141 ?_
        refine lv_dcmp hx hb dX4_thaws_142 ?_
        refine lv_if_ge (tgt := 150) hx hb dX4_thaws_143 (by decide) (fun c10 => ?_) (fun c10 => ?_)
        · refine lv_dload hx hb dX4_thaws_150 (lv_at hl 0 rfl) ?_
          obtain ⟨S11, eS11⟩ : ∃ z : MS, z = mkset S9 up.toNatClampNeg ⟨FP.dsub ((S9.2 up.toNatClampNeg).1) (FP.dadd (FP.i2d x7) (FP.dmul (4602678819172646912 : UInt64) (FP.i2d x4))), nn_less (S9.2 up.toNatClampNeg).2 _ _⟩ := ⟨_, rfl⟩
          refine sM_14 (x := ⟨FP.dsub ((S9.2 up.toNatClampNeg).1) (FP.dadd (FP.i2d x7) (FP.dmul (4602678819172646912 : UInt64) (FP.i2d x4))), nn_less (S9.2 up.toNatClampNeg).2 _ _⟩) hx hb hK hI hp eS11 dX4_thaws_152 (fun H locs hI => ?_)
          refine lv_aload_n hx hb dX4_thaws_153 rfl (lv_at hl 5 rfl) ?_
          refine gM_35 hx hb hts hown hK hI dX4_thaws_154 ?_
          refine lv_iload_n hx hb dX4_thaws_157 rfl (lv_at hl 6 rfl) ?_
          refine lv_aload_n hx hb dX4_thaws_158 rfl (lv_at hl 5 rfl) ?_
          refine gM_35 hx hb hts hown hK hI dX4_thaws_159 ?_
          refine lv_iload_n hx hb dX4_thaws_162 rfl (lv_at hl 6 rfl) ?_
          refine lM_11 hx hb hK hI hp dX4_thaws_163 ?_
          refine lv_iconst (v := 1) hx hb dX4_thaws_164 (by decide) ?_
          have hJ13 : ∀ (x12 : Int32), (x12 = if (S11.1 11 up.toNatClampNeg) = 1 then 2 else (S11.1 11 up.toNatClampNeg)) → W p G.1 e ({ frames := 0, cells := 0, slots := 0, locals := 0 }) s m args below meth c H locs 0 0 Q (F0 m 178 ls [.int x12, .int up, .ref (ad 11)]) := by
            intro x12 ex12
            obtain ⟨S14, eS14⟩ : ∃ z : MS, z = mset S11 11 up.toNatClampNeg x12 := ⟨_, rfl⟩
            refine sM_11 hx hb hK hI hp eS14 dX4_thaws_178 (fun H locs hI => ?_)
            have HE : M_thaws S up = S14 := by subst eS14 ex12 eS11 eS9 ex7 eS6 ex4 eS3 ex1; exact (if_pos c10)
            exact rt_v hx hb hr hlocks hI hA hQ ⟨rfl, by rw [HE]⟩ (Nat.zero_le _) (Nat.zero_le _) dX4_thaws_179
          refine lv_icmp_ne (tgt := 172) hx hb dX4_thaws_165 (by decide) (fun c15 => ?_) (fun c15 => ?_)
          · refine lv_aload_n hx hb dX4_thaws_172 rfl (lv_at hl 5 rfl) ?_
            refine gM_35 hx hb hts hown hK hI dX4_thaws_173 ?_
            refine lv_iload_n hx hb dX4_thaws_176 rfl (lv_at hl 6 rfl) ?_
            refine lM_11 hx hb hK hI hp dX4_thaws_177 ?_
            exact hJ13 (S11.1 11 up.toNatClampNeg) (by exact (if_neg c15).symm)
          · refine lv_iconst (v := 2) hx hb dX4_thaws_168 (by decide) ?_
            refine lv_goto (tgt := 178) hx hb dX4_thaws_169 (by decide) ?_
            exact hJ13 2 (by exact (if_pos c15).symm)
        · refine lv_dconst0 hx hb dX4_thaws_146 ?_
          refine lv_goto (tgt := 152) hx hb dX4_thaws_147 (by decide) ?_
          obtain ⟨S16, eS16⟩ : ∃ z : MS, z = mkset S9 up.toNatClampNeg ⟨FP.dconst0, nn_0⟩ := ⟨_, rfl⟩
          refine sM_14 (x := ⟨FP.dconst0, nn_0⟩) hx hb hK hI hp eS16 dX4_thaws_152 (fun H locs hI => ?_)
          refine lv_aload_n hx hb dX4_thaws_153 rfl (lv_at hl 5 rfl) ?_
          refine gM_35 hx hb hts hown hK hI dX4_thaws_154 ?_
          refine lv_iload_n hx hb dX4_thaws_157 rfl (lv_at hl 6 rfl) ?_
          refine lv_aload_n hx hb dX4_thaws_158 rfl (lv_at hl 5 rfl) ?_
          refine gM_35 hx hb hts hown hK hI dX4_thaws_159 ?_
          refine lv_iload_n hx hb dX4_thaws_162 rfl (lv_at hl 6 rfl) ?_
          refine lM_11 hx hb hK hI hp dX4_thaws_163 ?_
          refine lv_iconst (v := 1) hx hb dX4_thaws_164 (by decide) ?_
          have hJ18 : ∀ (x17 : Int32), (x17 = if (S16.1 11 up.toNatClampNeg) = 1 then 2 else (S16.1 11 up.toNatClampNeg)) → W p G.1 e ({ frames := 0, cells := 0, slots := 0, locals := 0 }) s m args below meth c H locs 0 0 Q (F0 m 178 ls [.int x17, .int up, .ref (ad 11)]) := by
            intro x17 ex17
            obtain ⟨S19, eS19⟩ : ∃ z : MS, z = mset S16 11 up.toNatClampNeg x17 := ⟨_, rfl⟩
            refine sM_11 hx hb hK hI hp eS19 dX4_thaws_178 (fun H locs hI => ?_)
            have HE : M_thaws S up = S19 := by subst eS19 ex17 eS16 eS9 ex7 eS6 ex4 eS3 ex1; exact (if_neg c10)
            exact rt_v hx hb hr hlocks hI hA hQ ⟨rfl, by rw [HE]⟩ (Nat.zero_le _) (Nat.zero_le _) dX4_thaws_179
          refine lv_icmp_ne (tgt := 172) hx hb dX4_thaws_165 (by decide) (fun c20 => ?_) (fun c20 => ?_)
          · refine lv_aload_n hx hb dX4_thaws_172 rfl (lv_at hl 5 rfl) ?_
            refine gM_35 hx hb hts hown hK hI dX4_thaws_173 ?_
            refine lv_iload_n hx hb dX4_thaws_176 rfl (lv_at hl 6 rfl) ?_
            refine lM_11 hx hb hK hI hp dX4_thaws_177 ?_
            exact hJ18 (S16.1 11 up.toNatClampNeg) (by exact (if_neg c20).symm)
          · refine lv_iconst (v := 2) hx hb dX4_thaws_168 (by decide) ?_
            refine lv_goto (tgt := 178) hx hb dX4_thaws_169 (by decide) ?_
            exact hJ18 2 (by exact (if_pos c20).symm)
      refine lv_icmp_ge (tgt := 95) hx hb dX4_thaws_88 (by decide) (fun c21 => ?_) (fun c21 => ?_)
      · refine lv_aload_n hx hb dX4_thaws_95 rfl (lv_at hl 3 rfl) ?_
        refine gM_23 hx hb hts hown hK hI dX4_thaws_96 ?_
        refine lv_iload_n hx hb dX4_thaws_99 rfl (lv_at hl 4 rfl) ?_
        refine lM_7 hx hb hK hI hp dX4_thaws_100 ?_
        exact hJ8 (S6.1 7 up.toNatClampNeg) (by exact (if_pos c21).symm)
      · refine lv_iload_n hx hb dX4_thaws_91 rfl (lv_at hl 0 rfl) ?_
        refine lv_goto (tgt := 101) hx hb dX4_thaws_92 (by decide) ?_
        exact hJ8 ((((-6) * (S.1 1 0)) - x1) - x4) (by exact (if_neg c21).symm)
    refine lv_icmp_ge (tgt := 57) hx hb dX4_thaws_50 (by decide) (fun c22 => ?_) (fun c22 => ?_)
    · refine lv_aload_n hx hb dX4_thaws_57 rfl (lv_at hl 2 rfl) ?_
      refine gM_26 hx hb hts hown hK hI dX4_thaws_58 ?_
      refine lv_iload_n hx hb dX4_thaws_61 rfl (lv_at hl 3 rfl) ?_
      refine lM_8 hx hb hK hI hp dX4_thaws_62 ?_
      exact hJ5 (S3.1 8 up.toNatClampNeg) (by exact (if_pos c22).symm)
    · refine lv_iload_n hx hb dX4_thaws_53 rfl (lv_at hl 0 rfl) ?_
      refine lv_goto (tgt := 63) hx hb dX4_thaws_54 (by decide) ?_
      exact hJ5 (((-6) * (S.1 1 0)) - x1) (by exact (if_neg c22).symm)
  refine lv_icmp_ge (tgt := 22) hx hb dX4_thaws_15 (by decide) (fun c23 => ?_) (fun c23 => ?_)
  · refine lv_aload_n hx hb dX4_thaws_22 rfl (lv_at hl 1 rfl) ?_
    refine gM_32 hx hb hts hown hK hI dX4_thaws_23 ?_
    refine lv_iload_n hx hb dX4_thaws_26 rfl (lv_at hl 2 rfl) ?_
    refine lM_10 hx hb hK hI hp dX4_thaws_27 ?_
    exact hJ2 (S.1 10 up.toNatClampNeg) (by exact (if_pos c23).symm)
  · refine lv_iload_n hx hb dX4_thaws_18 rfl (lv_at hl 0 rfl) ?_
    refine lv_goto (tgt := 28) hx hb dX4_thaws_19 (by decide) ?_
    exact hJ2 ((-6) * (S.1 1 0)) (by exact (if_neg c23).symm)

def M_thickness (S : MS) (up : Int32) (ub : Int32) : UInt64 × MS :=
  if M_isPiece S up then
    let S3 := mset S 29 0 0
    let x4 := if ub = 0 then (M_thick S3 up) else ((S3.2 up.toNatClampNeg).1)
    (x4, S3)
  else
    let S2 := mset S 29 0 1
    (FP.dconst0, S2)
set_option maxHeartbeats 4000000 in
set_option maxRecDepth 100000 in
theorem cM_thickness (G : GX) (ad : Nat → Nat) (S : MS) (up : Int32) (ub : Int32) {np nv : Nat} (hN : MNn S np nv) : FC G yX4_thickness cX4_thickness 3 (some .double) ({ frames := 2, cells := 0, slots := 0, locals := 43 }) [.ref (ad 0), .int up, .int ub] (mW G.2.2.2 ad S) (pv (.double (M_thickness S up ub).1) (mW G.2.2.2 ad (M_thickness S up ub).2)) := by
  refine FC.go (lv := [(0, .ref (ad 0)), (1, .int up), (2, .int ub)]) (by decide) (Nat.le_of_ble_eq_true rfl) rfl (fun p e s m args below meth c A H locs ls Q hx hb hr hts hown hml hlocks hnm hK hE hI hA hl hQ => ?_)
  have hown : s.vm.findClass RX4 = some m.cls := hown
  refine lv_aload_n hx hb dX4_thickness_0 rfl (lv_at hl 0 rfl) ?_
  refine lv_aload_n hx hb dX4_thickness_1 rfl (lv_at hl 0 rfl) ?_
  refine lv_iload_n hx hb dX4_thickness_2 rfl (lv_at hl 1 rfl) ?_
  refine cVv (rest := [.ref (ad 0)]) hx hb hml hts hown hK hE hI (cM_isPiece G ad S up) kM_109 ⟨Nat.le_of_ble_eq_true rfl, Nat.le_of_ble_eq_true rfl⟩ rfl rfl (kk := 4) (ii := 0) rfl rfl rfl hl.1 rfl (Nat.le_of_ble_eq_true rfl) dX4_thickness_3 ⟨Nat.zero_le _, Nat.zero_le _⟩ (fun H locs hI => ?_)
  refine xb_eq (tgt := 13) hx hb dX4_thickness_6 (by decide) (fun c1 => ?_) (fun c1 => ?_)
  · refine lv_iconst (v := 1) hx hb dX4_thickness_13 (by decide) ?_
    obtain ⟨S2, eS2⟩ : ∃ z : MS, z = mset S 29 0 1 := ⟨_, rfl⟩
    refine cVv (rest := []) hx hb hml hts hown hK hE hI (cM_fails1 G ad S) kM_101 ⟨Nat.le_of_ble_eq_true rfl, Nat.le_of_ble_eq_true rfl⟩ rfl rfl (kk := 4) (ii := 0) rfl rfl rfl hl.1 rfl (Nat.le_of_ble_eq_true rfl) dX4_thickness_14 ⟨Nat.zero_le _, Nat.zero_le _⟩ (fun H locs hI => ?_)
    rw [← eS2] at hI
    refine lv_if_eq (tgt := 24) hx hb dX4_thickness_17 (by decide) (fun h => absurd h (by decide)) (fun _ => ?_)
    refine lv_dconst0 hx hb dX4_thickness_20 ?_
    refine lv_goto (tgt := 42) hx hb dX4_thickness_21 (by decide) ?_
    have HE : M_thickness S up ub = (FP.dconst0, S2) := by subst eS2; exact (if_neg c1)
    exact rt_d hx hb hr hlocks hI hA hQ ⟨by rw [HE], by rw [HE]⟩ (Nat.zero_le _) (Nat.zero_le _) dX4_thickness_42
  · refine lv_iconst (v := 0) hx hb dX4_thickness_9 (by decide) ?_
    refine lv_goto (tgt := 14) hx hb dX4_thickness_10 (by decide) ?_
    obtain ⟨S3, eS3⟩ : ∃ z : MS, z = mset S 29 0 0 := ⟨_, rfl⟩
    refine cVv (rest := []) hx hb hml hts hown hK hE hI (cM_fails0 G ad S) kM_101 ⟨Nat.le_of_ble_eq_true rfl, Nat.le_of_ble_eq_true rfl⟩ rfl rfl (kk := 4) (ii := 0) rfl rfl rfl hl.1 rfl (Nat.le_of_ble_eq_true rfl) dX4_thickness_14 ⟨Nat.zero_le _, Nat.zero_le _⟩ (fun H locs hI => ?_)
    rw [← eS3] at hI
    refine lv_if_eq (tgt := 24) hx hb dX4_thickness_17 (by decide) (fun _ => ?_) (fun h => absurd h (by decide))
    refine lv_iload_n hx hb dX4_thickness_24 rfl (lv_at hl 2 rfl) ?_
    have hJ5 : ∀ (x4 : UInt64) (H : Heap) (locs : List Loc), (x4 = if ub = 0 then (M_thick S3 up) else ((S3.2 up.toNatClampNeg).1)) → (fI G.2.2.1 A s.heap (mW G.2.2.2 ad S3) H locs) → W p G.1 e ({ frames := 2, cells := 0, slots := 0, locals := 43 }) s m args below meth c H locs 0 0 Q (F0 m 42 ls [.double x4]) := by
      intro x4 H locs ex4 hI
      have HE : M_thickness S up ub = (x4, S3) := by subst ex4 eS3; exact (if_pos c1)
      exact rt_d hx hb hr hlocks hI hA hQ ⟨by rw [HE], by rw [HE]⟩ (Nat.zero_le _) (Nat.zero_le _) dX4_thickness_42
    refine lv_if_eq (tgt := 37) hx hb dX4_thickness_25 (by decide) (fun c6 => ?_) (fun c6 => ?_)
    · refine lv_aload_n hx hb dX4_thickness_37 rfl (lv_at hl 0 rfl) ?_
      refine lv_iload_n hx hb dX4_thickness_38 rfl (lv_at hl 1 rfl) ?_
      refine cVv (rest := []) hx hb hml hts hown hK hE hI (cM_thick G ad S3 up (isPiece_in hN c1)) kM_117 ⟨Nat.le_of_ble_eq_true rfl, Nat.le_of_ble_eq_true rfl⟩ rfl rfl (kk := 4) (ii := 0) rfl rfl rfl hl.1 rfl (Nat.le_of_ble_eq_true rfl) dX4_thickness_39 ⟨Nat.zero_le _, Nat.zero_le _⟩ (fun H locs hI => ?_)
      exact hJ5 (M_thick S3 up) _ _ (by exact (if_pos c6).symm) hI
    · refine lv_aload_n hx hb dX4_thickness_28 rfl (lv_at hl 0 rfl) ?_
      refine gM_44 hx hb hts hown hK hI dX4_thickness_29 ?_
      refine lv_iload_n hx hb dX4_thickness_32 rfl (lv_at hl 1 rfl) ?_
      refine lM_14 hx hb hK hI (isPiece_in hN c1) dX4_thickness_33 ?_
      refine lv_goto (tgt := 42) hx hb dX4_thickness_34 (by decide) ?_
      exact hJ5 ((S3.2 up.toNatClampNeg).1) _ _ (by exact (if_neg c6).symm) hI

def M_told (S : MS) (up : Int32) (uk : Int32) : Int32 × MS :=
  if M_isPiece S up then
    if M_isIn S uk 0 7 then
      let S4 := mset S 29 0 0
      if uk = 0 then
        (S4.1 7 up.toNatClampNeg, S4)
      else
        if uk = 1 then
          (S4.1 8 up.toNatClampNeg, S4)
        else
          if uk = 2 then
            (S4.1 9 up.toNatClampNeg, S4)
          else
            if uk = 3 then
              (S4.1 10 up.toNatClampNeg, S4)
            else
              if uk = 4 then
                (S4.1 11 up.toNatClampNeg, S4)
              else
                if uk = 5 then
                  (S4.1 12 up.toNatClampNeg, S4)
                else
                  if uk = 6 then
                    (S4.1 13 up.toNatClampNeg, S4)
                  else
                    (M_many S4 up, S4)
    else
      let S3 := mset S 29 0 2
      (0, S3)
  else
    let S12 := mset S 29 0 1
    (0, S12)
set_option maxHeartbeats 4000000 in
set_option maxRecDepth 100000 in
theorem cM_told (G : GX) (ad : Nat → Nat) (S : MS) (up : Int32) (uk : Int32) {np nv : Nat} (hN : MNn S np nv) : FC G yX4_told cX4_told 3 (some .int) ({ frames := 2, cells := 0, slots := 0, locals := 43 }) [.ref (ad 0), .int up, .int uk] (mW G.2.2.2 ad S) (pv (.int (M_told S up uk).1) (mW G.2.2.2 ad (M_told S up uk).2)) := by
  refine FC.go (lv := [(0, .ref (ad 0)), (1, .int up), (2, .int uk)]) (by decide) (Nat.le_of_ble_eq_true rfl) rfl (fun p e s m args below meth c A H locs ls Q hx hb hr hts hown hml hlocks hnm hK hE hI hA hl hQ => ?_)
  have hown : s.vm.findClass RX4 = some m.cls := hown
  refine lv_aload_n hx hb dX4_told_0 rfl (lv_at hl 0 rfl) ?_
  refine lv_aload_n hx hb dX4_told_1 rfl (lv_at hl 0 rfl) ?_
  refine lv_iload_n hx hb dX4_told_2 rfl (lv_at hl 1 rfl) ?_
  refine cVv (rest := [.ref (ad 0)]) hx hb hml hts hown hK hE hI (cM_isPiece G ad S up) kM_109 ⟨Nat.le_of_ble_eq_true rfl, Nat.le_of_ble_eq_true rfl⟩ rfl rfl (kk := 4) (ii := 0) rfl rfl rfl hl.1 rfl (Nat.le_of_ble_eq_true rfl) dX4_told_3 ⟨Nat.zero_le _, Nat.zero_le _⟩ (fun H locs hI => ?_)
  refine xb_ne (tgt := 13) hx hb dX4_told_6 (by decide) (fun c1 => ?_) (fun c1 => ?_)
  · refine lv_iload_n hx hb dX4_told_13 rfl (lv_at hl 2 rfl) ?_
    refine lv_iconst (v := 0) hx hb dX4_told_14 (by decide) ?_
    refine lv_bipush (v := 7) hx hb dX4_told_15 (by decide) ?_
    refine cSv (rest := [.ref (ad 0)]) hx hb hml hts hown hK hE hI (cM_isIn G ad S uk 0 7) kM_94 ⟨Nat.le_of_ble_eq_true rfl, Nat.le_of_ble_eq_true rfl⟩ rfl rfl hl.1 rfl (Nat.le_of_ble_eq_true rfl) dX4_told_17 ⟨Nat.zero_le _, Nat.zero_le _⟩ (fun H locs hI => ?_)
    refine xb_eq (tgt := 27) hx hb dX4_told_20 (by decide) (fun c2 => ?_) (fun c2 => ?_)
    · refine lv_iconst (v := 2) hx hb dX4_told_27 (by decide) ?_
      obtain ⟨S3, eS3⟩ : ∃ z : MS, z = mset S 29 0 2 := ⟨_, rfl⟩
      refine cVv (rest := []) hx hb hml hts hown hK hE hI (cM_fails2 G ad S) kM_101 ⟨Nat.le_of_ble_eq_true rfl, Nat.le_of_ble_eq_true rfl⟩ rfl rfl (kk := 4) (ii := 0) rfl rfl rfl hl.1 rfl (Nat.le_of_ble_eq_true rfl) dX4_told_28 ⟨Nat.zero_le _, Nat.zero_le _⟩ (fun H locs hI => ?_)
      rw [← eS3] at hI
      refine lv_if_eq (tgt := 36) hx hb dX4_told_31 (by decide) (fun h => absurd h (by decide)) (fun _ => ?_)
      refine lv_iconst (v := 0) hx hb dX4_told_34 (by decide) ?_
      have HE : M_told S up uk = (0, S3) := by subst eS3; exact (if_pos c1).trans ((if_neg c2))
      exact rt_i hx hb hr hlocks hI hA hQ ⟨by rw [HE], by rw [HE]⟩ (Nat.zero_le _) (Nat.zero_le _) dX4_told_35
    · refine lv_iconst (v := 0) hx hb dX4_told_23 (by decide) ?_
      refine lv_goto (tgt := 28) hx hb dX4_told_24 (by decide) ?_
      obtain ⟨S4, eS4⟩ : ∃ z : MS, z = mset S 29 0 0 := ⟨_, rfl⟩
      refine cVv (rest := []) hx hb hml hts hown hK hE hI (cM_fails0 G ad S) kM_101 ⟨Nat.le_of_ble_eq_true rfl, Nat.le_of_ble_eq_true rfl⟩ rfl rfl (kk := 4) (ii := 0) rfl rfl rfl hl.1 rfl (Nat.le_of_ble_eq_true rfl) dX4_told_28 ⟨Nat.zero_le _, Nat.zero_le _⟩ (fun H locs hI => ?_)
      rw [← eS4] at hI
      refine lv_if_eq (tgt := 36) hx hb dX4_told_31 (by decide) (fun _ => ?_) (fun h => absurd h (by decide))
      refine lv_iload_n hx hb dX4_told_36 rfl (lv_at hl 2 rfl) ?_
      by_cases c5 : uk = 0
      · refine lv_tableIn (off := 43) (tgt := 80) hx hb dX4_told_37 (by rw [c5]; decide) (by rw [c5]; decide) (by rw [c5]; rfl) (by decide) ?_
        refine lv_aload_n hx hb dX4_told_80 rfl (lv_at hl 0 rfl) ?_
        refine gM_23 hx hb hts hown hK hI dX4_told_81 ?_
        refine lv_iload_n hx hb dX4_told_84 rfl (lv_at hl 1 rfl) ?_
        refine lM_7 hx hb hK hI (isPiece_in hN c1) dX4_told_85 ?_
        have HE : M_told S up uk = (S4.1 7 up.toNatClampNeg, S4) := by subst eS4; exact (if_pos c1).trans ((if_pos c2).trans ((if_pos c5)))
        exact rt_i hx hb hr hlocks hI hA hQ ⟨by rw [HE], by rw [HE]⟩ (Nat.zero_le _) (Nat.zero_le _) dX4_told_86
      by_cases c6 : uk = 1
      · refine lv_tableIn (off := 50) (tgt := 87) hx hb dX4_told_37 (by rw [c6]; decide) (by rw [c6]; decide) (by rw [c6]; rfl) (by decide) ?_
        refine lv_aload_n hx hb dX4_told_87 rfl (lv_at hl 0 rfl) ?_
        refine gM_26 hx hb hts hown hK hI dX4_told_88 ?_
        refine lv_iload_n hx hb dX4_told_91 rfl (lv_at hl 1 rfl) ?_
        refine lM_8 hx hb hK hI (isPiece_in hN c1) dX4_told_92 ?_
        have HE : M_told S up uk = (S4.1 8 up.toNatClampNeg, S4) := by subst eS4; exact (if_pos c1).trans ((if_pos c2).trans ((if_neg c5).trans ((if_pos c6))))
        exact rt_i hx hb hr hlocks hI hA hQ ⟨by rw [HE], by rw [HE]⟩ (Nat.zero_le _) (Nat.zero_le _) dX4_told_93
      by_cases c7 : uk = 2
      · refine lv_tableIn (off := 57) (tgt := 94) hx hb dX4_told_37 (by rw [c7]; decide) (by rw [c7]; decide) (by rw [c7]; rfl) (by decide) ?_
        refine lv_aload_n hx hb dX4_told_94 rfl (lv_at hl 0 rfl) ?_
        refine gM_29 hx hb hts hown hK hI dX4_told_95 ?_
        refine lv_iload_n hx hb dX4_told_98 rfl (lv_at hl 1 rfl) ?_
        refine lM_9 hx hb hK hI (isPiece_in hN c1) dX4_told_99 ?_
        have HE : M_told S up uk = (S4.1 9 up.toNatClampNeg, S4) := by subst eS4; exact (if_pos c1).trans ((if_pos c2).trans ((if_neg c5).trans ((if_neg c6).trans ((if_pos c7)))))
        exact rt_i hx hb hr hlocks hI hA hQ ⟨by rw [HE], by rw [HE]⟩ (Nat.zero_le _) (Nat.zero_le _) dX4_told_100
      by_cases c8 : uk = 3
      · refine lv_tableIn (off := 64) (tgt := 101) hx hb dX4_told_37 (by rw [c8]; decide) (by rw [c8]; decide) (by rw [c8]; rfl) (by decide) ?_
        refine lv_aload_n hx hb dX4_told_101 rfl (lv_at hl 0 rfl) ?_
        refine gM_32 hx hb hts hown hK hI dX4_told_102 ?_
        refine lv_iload_n hx hb dX4_told_105 rfl (lv_at hl 1 rfl) ?_
        refine lM_10 hx hb hK hI (isPiece_in hN c1) dX4_told_106 ?_
        have HE : M_told S up uk = (S4.1 10 up.toNatClampNeg, S4) := by subst eS4; exact (if_pos c1).trans ((if_pos c2).trans ((if_neg c5).trans ((if_neg c6).trans ((if_neg c7).trans ((if_pos c8))))))
        exact rt_i hx hb hr hlocks hI hA hQ ⟨by rw [HE], by rw [HE]⟩ (Nat.zero_le _) (Nat.zero_le _) dX4_told_107
      by_cases c9 : uk = 4
      · refine lv_tableIn (off := 71) (tgt := 108) hx hb dX4_told_37 (by rw [c9]; decide) (by rw [c9]; decide) (by rw [c9]; rfl) (by decide) ?_
        refine lv_aload_n hx hb dX4_told_108 rfl (lv_at hl 0 rfl) ?_
        refine gM_35 hx hb hts hown hK hI dX4_told_109 ?_
        refine lv_iload_n hx hb dX4_told_112 rfl (lv_at hl 1 rfl) ?_
        refine lM_11 hx hb hK hI (isPiece_in hN c1) dX4_told_113 ?_
        have HE : M_told S up uk = (S4.1 11 up.toNatClampNeg, S4) := by subst eS4; exact (if_pos c1).trans ((if_pos c2).trans ((if_neg c5).trans ((if_neg c6).trans ((if_neg c7).trans ((if_neg c8).trans ((if_pos c9)))))))
        exact rt_i hx hb hr hlocks hI hA hQ ⟨by rw [HE], by rw [HE]⟩ (Nat.zero_le _) (Nat.zero_le _) dX4_told_114
      by_cases c10 : uk = 5
      · refine lv_tableIn (off := 78) (tgt := 115) hx hb dX4_told_37 (by rw [c10]; decide) (by rw [c10]; decide) (by rw [c10]; rfl) (by decide) ?_
        refine lv_aload_n hx hb dX4_told_115 rfl (lv_at hl 0 rfl) ?_
        refine gM_38 hx hb hts hown hK hI dX4_told_116 ?_
        refine lv_iload_n hx hb dX4_told_119 rfl (lv_at hl 1 rfl) ?_
        refine lM_12 hx hb hK hI (isPiece_in hN c1) dX4_told_120 ?_
        have HE : M_told S up uk = (S4.1 12 up.toNatClampNeg, S4) := by subst eS4; exact (if_pos c1).trans ((if_pos c2).trans ((if_neg c5).trans ((if_neg c6).trans ((if_neg c7).trans ((if_neg c8).trans ((if_neg c9).trans ((if_pos c10))))))))
        exact rt_i hx hb hr hlocks hI hA hQ ⟨by rw [HE], by rw [HE]⟩ (Nat.zero_le _) (Nat.zero_le _) dX4_told_121
      by_cases c11 : uk = 6
      · refine lv_tableIn (off := 85) (tgt := 122) hx hb dX4_told_37 (by rw [c11]; decide) (by rw [c11]; decide) (by rw [c11]; rfl) (by decide) ?_
        refine lv_aload_n hx hb dX4_told_122 rfl (lv_at hl 0 rfl) ?_
        refine gM_41 hx hb hts hown hK hI dX4_told_123 ?_
        refine lv_iload_n hx hb dX4_told_126 rfl (lv_at hl 1 rfl) ?_
        refine lM_13 hx hb hK hI (isPiece_in hN c1) dX4_told_127 ?_
        have HE : M_told S up uk = (S4.1 13 up.toNatClampNeg, S4) := by subst eS4; exact (if_pos c1).trans ((if_pos c2).trans ((if_neg c5).trans ((if_neg c6).trans ((if_neg c7).trans ((if_neg c8).trans ((if_neg c9).trans ((if_neg c10).trans ((if_pos c11)))))))))
        exact rt_i hx hb hr hlocks hI hA hQ ⟨by rw [HE], by rw [HE]⟩ (Nat.zero_le _) (Nat.zero_le _) dX4_told_128
      refine lv_tableOut (tgt := 129) hx hb dX4_told_37 (sw_out7 c5 c6 c7 c8 c9 c10 c11) (by decide) ?_
      refine lv_aload_n hx hb dX4_told_129 rfl (lv_at hl 0 rfl) ?_
      refine lv_iload_n hx hb dX4_told_130 rfl (lv_at hl 1 rfl) ?_
      refine cVv (rest := []) hx hb hml hts hown hK hE hI (cM_many G ad S4 up (MNn_set hN (by decide) (by decide) eS4)) kM_200 ⟨Nat.le_of_ble_eq_true rfl, Nat.le_of_ble_eq_true rfl⟩ rfl rfl (kk := 4) (ii := 0) rfl rfl rfl hl.1 rfl (Nat.le_of_ble_eq_true rfl) dX4_told_131 ⟨Nat.zero_le _, Nat.zero_le _⟩ (fun H locs hI => ?_)
      have HE : M_told S up uk = (M_many S4 up, S4) := by subst eS4; exact (if_pos c1).trans ((if_pos c2).trans ((if_neg c5).trans ((if_neg c6).trans ((if_neg c7).trans ((if_neg c8).trans ((if_neg c9).trans ((if_neg c10).trans ((if_neg c11)))))))))
      exact rt_i hx hb hr hlocks hI hA hQ ⟨by rw [HE], by rw [HE]⟩ (Nat.zero_le _) (Nat.zero_le _) dX4_told_134
  · refine lv_iconst (v := 1) hx hb dX4_told_9 (by decide) ?_
    refine lv_goto (tgt := 28) hx hb dX4_told_10 (by decide) ?_
    obtain ⟨S12, eS12⟩ : ∃ z : MS, z = mset S 29 0 1 := ⟨_, rfl⟩
    refine cVv (rest := []) hx hb hml hts hown hK hE hI (cM_fails1 G ad S) kM_101 ⟨Nat.le_of_ble_eq_true rfl, Nat.le_of_ble_eq_true rfl⟩ rfl rfl (kk := 4) (ii := 0) rfl rfl rfl hl.1 rfl (Nat.le_of_ble_eq_true rfl) dX4_told_28 ⟨Nat.zero_le _, Nat.zero_le _⟩ (fun H locs hI => ?_)
    rw [← eS12] at hI
    refine lv_if_eq (tgt := 36) hx hb dX4_told_31 (by decide) (fun h => absurd h (by decide)) (fun _ => ?_)
    refine lv_iconst (v := 0) hx hb dX4_told_34 (by decide) ?_
    have HE : M_told S up uk = (0, S12) := by subst eS12; exact (if_neg c1)
    exact rt_i hx hb hr hlocks hI hA hQ ⟨by rw [HE], by rw [HE]⟩ (Nat.zero_le _) (Nat.zero_le _) dX4_told_35

def M_ofVehicle (S : MS) (uv : Int32) (uk : Int32) : Int32 × MS :=
  if M_isVehicle S uv then
    if M_isIn S uk 0 6 then
      let S4 := mset S 29 0 0
      if uk = 0 then
        (S4.1 20 uv.toNatClampNeg, S4)
      else
        if uk = 1 then
          (M_weight S4 uv, S4)
        else
          if uk = 2 then
            (S4.1 24 uv.toNatClampNeg, S4)
          else
            if uk = 3 then
              (S4.1 25 uv.toNatClampNeg, S4)
            else
              if uk = 4 then
                (S4.1 21 uv.toNatClampNeg, S4)
              else
                if uk = 5 then
                  (bI (¬ ((S4.1 22 uv.toNatClampNeg) = 0)), S4)
                else
                  let x15 := if (S4.1 20 uv.toNatClampNeg) = 1 then (S4.1 23 uv.toNatClampNeg) else (-1)
                  (x15, S4)
    else
      let S3 := mset S 29 0 2
      (0, S3)
  else
    let S18 := mset S 29 0 1
    (0, S18)
set_option maxHeartbeats 4000000 in
set_option maxRecDepth 100000 in
theorem cM_ofVehicle (G : GX) (ad : Nat → Nat) (S : MS) (uv : Int32) (uk : Int32) {np nv : Nat} (hN : MNn S np nv) : FC G yX4_ofVehicle cX4_ofVehicle 3 (some .int) ({ frames := 2, cells := 0, slots := 0, locals := 43 }) [.ref (ad 0), .int uv, .int uk] (mW G.2.2.2 ad S) (pv (.int (M_ofVehicle S uv uk).1) (mW G.2.2.2 ad (M_ofVehicle S uv uk).2)) := by
  refine FC.go (lv := [(0, .ref (ad 0)), (1, .int uv), (2, .int uk)]) (by decide) (Nat.le_of_ble_eq_true rfl) rfl (fun p e s m args below meth c A H locs ls Q hx hb hr hts hown hml hlocks hnm hK hE hI hA hl hQ => ?_)
  have hown : s.vm.findClass RX4 = some m.cls := hown
  refine lv_aload_n hx hb dX4_ofVehicle_0 rfl (lv_at hl 0 rfl) ?_
  refine lv_aload_n hx hb dX4_ofVehicle_1 rfl (lv_at hl 0 rfl) ?_
  refine lv_iload_n hx hb dX4_ofVehicle_2 rfl (lv_at hl 1 rfl) ?_
  refine cVv (rest := [.ref (ad 0)]) hx hb hml hts hown hK hE hI (cM_isVehicle G ad S uv) kM_123 ⟨Nat.le_of_ble_eq_true rfl, Nat.le_of_ble_eq_true rfl⟩ rfl rfl (kk := 4) (ii := 0) rfl rfl rfl hl.1 rfl (Nat.le_of_ble_eq_true rfl) dX4_ofVehicle_3 ⟨Nat.zero_le _, Nat.zero_le _⟩ (fun H locs hI => ?_)
  refine xb_ne (tgt := 13) hx hb dX4_ofVehicle_6 (by decide) (fun c1 => ?_) (fun c1 => ?_)
  · refine lv_iload_n hx hb dX4_ofVehicle_13 rfl (lv_at hl 2 rfl) ?_
    refine lv_iconst (v := 0) hx hb dX4_ofVehicle_14 (by decide) ?_
    refine lv_bipush (v := 6) hx hb dX4_ofVehicle_15 (by decide) ?_
    refine cSv (rest := [.ref (ad 0)]) hx hb hml hts hown hK hE hI (cM_isIn G ad S uk 0 6) kM_94 ⟨Nat.le_of_ble_eq_true rfl, Nat.le_of_ble_eq_true rfl⟩ rfl rfl hl.1 rfl (Nat.le_of_ble_eq_true rfl) dX4_ofVehicle_17 ⟨Nat.zero_le _, Nat.zero_le _⟩ (fun H locs hI => ?_)
    refine xb_eq (tgt := 27) hx hb dX4_ofVehicle_20 (by decide) (fun c2 => ?_) (fun c2 => ?_)
    · refine lv_iconst (v := 2) hx hb dX4_ofVehicle_27 (by decide) ?_
      obtain ⟨S3, eS3⟩ : ∃ z : MS, z = mset S 29 0 2 := ⟨_, rfl⟩
      refine cVv (rest := []) hx hb hml hts hown hK hE hI (cM_fails2 G ad S) kM_101 ⟨Nat.le_of_ble_eq_true rfl, Nat.le_of_ble_eq_true rfl⟩ rfl rfl (kk := 4) (ii := 0) rfl rfl rfl hl.1 rfl (Nat.le_of_ble_eq_true rfl) dX4_ofVehicle_28 ⟨Nat.zero_le _, Nat.zero_le _⟩ (fun H locs hI => ?_)
      rw [← eS3] at hI
      refine lv_if_eq (tgt := 36) hx hb dX4_ofVehicle_31 (by decide) (fun h => absurd h (by decide)) (fun _ => ?_)
      refine lv_iconst (v := 0) hx hb dX4_ofVehicle_34 (by decide) ?_
      have HE : M_ofVehicle S uv uk = (0, S3) := by subst eS3; exact (if_pos c1).trans ((if_neg c2))
      exact rt_i hx hb hr hlocks hI hA hQ ⟨by rw [HE], by rw [HE]⟩ (Nat.zero_le _) (Nat.zero_le _) dX4_ofVehicle_35
    · refine lv_iconst (v := 0) hx hb dX4_ofVehicle_23 (by decide) ?_
      refine lv_goto (tgt := 28) hx hb dX4_ofVehicle_24 (by decide) ?_
      obtain ⟨S4, eS4⟩ : ∃ z : MS, z = mset S 29 0 0 := ⟨_, rfl⟩
      refine cVv (rest := []) hx hb hml hts hown hK hE hI (cM_fails0 G ad S) kM_101 ⟨Nat.le_of_ble_eq_true rfl, Nat.le_of_ble_eq_true rfl⟩ rfl rfl (kk := 4) (ii := 0) rfl rfl rfl hl.1 rfl (Nat.le_of_ble_eq_true rfl) dX4_ofVehicle_28 ⟨Nat.zero_le _, Nat.zero_le _⟩ (fun H locs hI => ?_)
      rw [← eS4] at hI
      refine lv_if_eq (tgt := 36) hx hb dX4_ofVehicle_31 (by decide) (fun _ => ?_) (fun h => absurd h (by decide))
      refine lv_iload_n hx hb dX4_ofVehicle_36 rfl (lv_at hl 2 rfl) ?_
      by_cases c5 : uk = 0
      · refine lv_tableIn (off := 39) (tgt := 76) hx hb dX4_ofVehicle_37 (by rw [c5]; decide) (by rw [c5]; decide) (by rw [c5]; rfl) (by decide) ?_
        refine lv_aload_n hx hb dX4_ofVehicle_76 rfl (lv_at hl 0 rfl) ?_
        refine gM_60 hx hb hts hown hK hI dX4_ofVehicle_77 ?_
        refine lv_iload_n hx hb dX4_ofVehicle_80 rfl (lv_at hl 1 rfl) ?_
        refine lM_20 hx hb hK hI (isVehicle_in hN c1) dX4_ofVehicle_81 ?_
        have HE : M_ofVehicle S uv uk = (S4.1 20 uv.toNatClampNeg, S4) := by subst eS4; exact (if_pos c1).trans ((if_pos c2).trans ((if_pos c5)))
        exact rt_i hx hb hr hlocks hI hA hQ ⟨by rw [HE], by rw [HE]⟩ (Nat.zero_le _) (Nat.zero_le _) dX4_ofVehicle_82
      by_cases c6 : uk = 1
      · refine lv_tableIn (off := 46) (tgt := 83) hx hb dX4_ofVehicle_37 (by rw [c6]; decide) (by rw [c6]; decide) (by rw [c6]; rfl) (by decide) ?_
        refine lv_aload_n hx hb dX4_ofVehicle_83 rfl (lv_at hl 0 rfl) ?_
        refine lv_iload_n hx hb dX4_ofVehicle_84 rfl (lv_at hl 1 rfl) ?_
        refine cVv (rest := []) hx hb hml hts hown hK hE hI (cM_weight G ad S4 uv (isVehicle_in hN c1)) kM_129 ⟨Nat.le_of_ble_eq_true rfl, Nat.le_of_ble_eq_true rfl⟩ rfl rfl (kk := 4) (ii := 0) rfl rfl rfl hl.1 rfl (Nat.le_of_ble_eq_true rfl) dX4_ofVehicle_85 ⟨Nat.zero_le _, Nat.zero_le _⟩ (fun H locs hI => ?_)
        have HE : M_ofVehicle S uv uk = (M_weight S4 uv, S4) := by subst eS4; exact (if_pos c1).trans ((if_pos c2).trans ((if_neg c5).trans ((if_pos c6))))
        exact rt_i hx hb hr hlocks hI hA hQ ⟨by rw [HE], by rw [HE]⟩ (Nat.zero_le _) (Nat.zero_le _) dX4_ofVehicle_88
      by_cases c7 : uk = 2
      · refine lv_tableIn (off := 52) (tgt := 89) hx hb dX4_ofVehicle_37 (by rw [c7]; decide) (by rw [c7]; decide) (by rw [c7]; rfl) (by decide) ?_
        refine lv_aload_n hx hb dX4_ofVehicle_89 rfl (lv_at hl 0 rfl) ?_
        refine gM_73 hx hb hts hown hK hI dX4_ofVehicle_90 ?_
        refine lv_iload_n hx hb dX4_ofVehicle_93 rfl (lv_at hl 1 rfl) ?_
        refine lM_24 hx hb hK hI (isVehicle_in hN c1) dX4_ofVehicle_94 ?_
        have HE : M_ofVehicle S uv uk = (S4.1 24 uv.toNatClampNeg, S4) := by subst eS4; exact (if_pos c1).trans ((if_pos c2).trans ((if_neg c5).trans ((if_neg c6).trans ((if_pos c7)))))
        exact rt_i hx hb hr hlocks hI hA hQ ⟨by rw [HE], by rw [HE]⟩ (Nat.zero_le _) (Nat.zero_le _) dX4_ofVehicle_95
      by_cases c8 : uk = 3
      · refine lv_tableIn (off := 59) (tgt := 96) hx hb dX4_ofVehicle_37 (by rw [c8]; decide) (by rw [c8]; decide) (by rw [c8]; rfl) (by decide) ?_
        refine lv_aload_n hx hb dX4_ofVehicle_96 rfl (lv_at hl 0 rfl) ?_
        refine gM_76 hx hb hts hown hK hI dX4_ofVehicle_97 ?_
        refine lv_iload_n hx hb dX4_ofVehicle_100 rfl (lv_at hl 1 rfl) ?_
        refine lM_25 hx hb hK hI (isVehicle_in hN c1) dX4_ofVehicle_101 ?_
        have HE : M_ofVehicle S uv uk = (S4.1 25 uv.toNatClampNeg, S4) := by subst eS4; exact (if_pos c1).trans ((if_pos c2).trans ((if_neg c5).trans ((if_neg c6).trans ((if_neg c7).trans ((if_pos c8))))))
        exact rt_i hx hb hr hlocks hI hA hQ ⟨by rw [HE], by rw [HE]⟩ (Nat.zero_le _) (Nat.zero_le _) dX4_ofVehicle_102
      by_cases c9 : uk = 4
      · refine lv_tableIn (off := 66) (tgt := 103) hx hb dX4_ofVehicle_37 (by rw [c9]; decide) (by rw [c9]; decide) (by rw [c9]; rfl) (by decide) ?_
        refine lv_aload_n hx hb dX4_ofVehicle_103 rfl (lv_at hl 0 rfl) ?_
        refine gM_63 hx hb hts hown hK hI dX4_ofVehicle_104 ?_
        refine lv_iload_n hx hb dX4_ofVehicle_107 rfl (lv_at hl 1 rfl) ?_
        refine lM_21 hx hb hK hI (isVehicle_in hN c1) dX4_ofVehicle_108 ?_
        have HE : M_ofVehicle S uv uk = (S4.1 21 uv.toNatClampNeg, S4) := by subst eS4; exact (if_pos c1).trans ((if_pos c2).trans ((if_neg c5).trans ((if_neg c6).trans ((if_neg c7).trans ((if_neg c8).trans ((if_pos c9)))))))
        exact rt_i hx hb hr hlocks hI hA hQ ⟨by rw [HE], by rw [HE]⟩ (Nat.zero_le _) (Nat.zero_le _) dX4_ofVehicle_109
      by_cases c10 : uk = 5
      · refine lv_tableIn (off := 73) (tgt := 110) hx hb dX4_ofVehicle_37 (by rw [c10]; decide) (by rw [c10]; decide) (by rw [c10]; rfl) (by decide) ?_
        refine lv_aload_n hx hb dX4_ofVehicle_110 rfl (lv_at hl 0 rfl) ?_
        refine gM_66 hx hb hts hown hK hI dX4_ofVehicle_111 ?_
        refine lv_iload_n hx hb dX4_ofVehicle_114 rfl (lv_at hl 1 rfl) ?_
        refine lM_22 hx hb hK hI (isVehicle_in hN c1) dX4_ofVehicle_115 ?_
        have hJ11 : W p G.1 e ({ frames := 2, cells := 0, slots := 0, locals := 43 }) s m args below meth c H locs 0 0 Q (F0 m 124 ls [.int (bI (¬ ((S4.1 22 uv.toNatClampNeg) = 0)))]) := by
          have HE : M_ofVehicle S uv uk = (bI (¬ ((S4.1 22 uv.toNatClampNeg) = 0)), S4) := by subst eS4; exact (if_pos c1).trans ((if_pos c2).trans ((if_neg c5).trans ((if_neg c6).trans ((if_neg c7).trans ((if_neg c8).trans ((if_neg c9).trans ((if_pos c10))))))))
          exact rt_i hx hb hr hlocks hI hA hQ ⟨by rw [HE], by rw [HE]⟩ (Nat.zero_le _) (Nat.zero_le _) dX4_ofVehicle_124
        refine lv_if_eq (tgt := 123) hx hb dX4_ofVehicle_116 (by decide) (fun c12 => ?_) (fun c12 => ?_)
        · refine lv_iconst (v := 0) hx hb dX4_ofVehicle_123 (by decide) ?_
          have eb13 : (0 : Int32) = bI (¬ ((S4.1 22 uv.toNatClampNeg) = 0)) := (bI_f (fun k => k c12)).symm
          rw [eb13]
          exact hJ11
        · refine lv_iconst (v := 1) hx hb dX4_ofVehicle_119 (by decide) ?_
          refine lv_goto (tgt := 124) hx hb dX4_ofVehicle_120 (by decide) ?_
          have eb14 : (1 : Int32) = bI (¬ ((S4.1 22 uv.toNatClampNeg) = 0)) := (bI_t c12).symm
          rw [eb14]
          exact hJ11
      refine lv_tableOut (tgt := 125) hx hb dX4_ofVehicle_37 (sw_out6 c5 c6 c7 c8 c9 c10) (by decide) ?_
      refine lv_aload_n hx hb dX4_ofVehicle_125 rfl (lv_at hl 0 rfl) ?_
      refine gM_60 hx hb hts hown hK hI dX4_ofVehicle_126 ?_
      refine lv_iload_n hx hb dX4_ofVehicle_129 rfl (lv_at hl 1 rfl) ?_
      refine lM_20 hx hb hK hI (isVehicle_in hN c1) dX4_ofVehicle_130 ?_
      refine lv_iconst (v := 1) hx hb dX4_ofVehicle_131 (by decide) ?_
      have hJ16 : ∀ (x15 : Int32), (x15 = if (S4.1 20 uv.toNatClampNeg) = 1 then (S4.1 23 uv.toNatClampNeg) else (-1)) → W p G.1 e ({ frames := 2, cells := 0, slots := 0, locals := 43 }) s m args below meth c H locs 0 0 Q (F0 m 145 ls [.int x15]) := by
        intro x15 ex15
        have HE : M_ofVehicle S uv uk = (x15, S4) := by subst ex15 eS4; exact (if_pos c1).trans ((if_pos c2).trans ((if_neg c5).trans ((if_neg c6).trans ((if_neg c7).trans ((if_neg c8).trans ((if_neg c9).trans ((if_neg c10))))))))
        exact rt_i hx hb hr hlocks hI hA hQ ⟨by rw [HE], by rw [HE]⟩ (Nat.zero_le _) (Nat.zero_le _) dX4_ofVehicle_145
      refine lv_icmp_ne (tgt := 144) hx hb dX4_ofVehicle_132 (by decide) (fun c17 => ?_) (fun c17 => ?_)
      · refine lv_iconst (v := (-1)) hx hb dX4_ofVehicle_144 (by decide) ?_
        exact hJ16 (-1) (by exact (if_neg c17).symm)
      · refine lv_aload_n hx hb dX4_ofVehicle_135 rfl (lv_at hl 0 rfl) ?_
        refine gM_70 hx hb hts hown hK hI dX4_ofVehicle_136 ?_
        refine lv_iload_n hx hb dX4_ofVehicle_139 rfl (lv_at hl 1 rfl) ?_
        refine lM_23 hx hb hK hI (isVehicle_in hN c1) dX4_ofVehicle_140 ?_
        refine lv_goto (tgt := 145) hx hb dX4_ofVehicle_141 (by decide) ?_
        exact hJ16 (S4.1 23 uv.toNatClampNeg) (by exact (if_pos c17).symm)
  · refine lv_iconst (v := 1) hx hb dX4_ofVehicle_9 (by decide) ?_
    refine lv_goto (tgt := 28) hx hb dX4_ofVehicle_10 (by decide) ?_
    obtain ⟨S18, eS18⟩ : ∃ z : MS, z = mset S 29 0 1 := ⟨_, rfl⟩
    refine cVv (rest := []) hx hb hml hts hown hK hE hI (cM_fails1 G ad S) kM_101 ⟨Nat.le_of_ble_eq_true rfl, Nat.le_of_ble_eq_true rfl⟩ rfl rfl (kk := 4) (ii := 0) rfl rfl rfl hl.1 rfl (Nat.le_of_ble_eq_true rfl) dX4_ofVehicle_28 ⟨Nat.zero_le _, Nat.zero_le _⟩ (fun H locs hI => ?_)
    rw [← eS18] at hI
    refine lv_if_eq (tgt := 36) hx hb dX4_ofVehicle_31 (by decide) (fun h => absurd h (by decide)) (fun _ => ?_)
    refine lv_iconst (v := 0) hx hb dX4_ofVehicle_34 (by decide) ?_
    have HE : M_ofVehicle S uv uk = (0, S18) := by subst eS18; exact (if_neg c1)
    exact rt_i hx hb hr hlocks hI hA hQ ⟨by rw [HE], by rw [HE]⟩ (Nat.zero_le _) (Nat.zero_le _) dX4_ofVehicle_35

def M_kilos (S : MS) (ug : Int32) (uk : Int32) : Int32 × MS :=
  if M_isGoods S ug then
    if M_isIn S uk 0 4 then
      let S4 := mset S 29 0 0
      let x5 := if uk = 0 then (S4.1 26 ug.toNatClampNeg) else (if uk = 1 then (S4.1 27 ug.toNatClampNeg) else (if uk = 4 then (M_missing S4 ug) else (M_carried S4 ug (bI (uk = 3)))))
      (x5, S4)
    else
      let S3 := mset S 29 0 2
      (0, S3)
  else
    let S14 := mset S 29 0 1
    (0, S14)
set_option maxHeartbeats 4000000 in
set_option maxRecDepth 100000 in
theorem cM_kilos (G : GX) (ad : Nat → Nat) (S : MS) (ug : Int32) (uk : Int32) {np nv : Nat} (hN : MNn S np nv) : FC G yX4_kilos cX4_kilos 3 (some .int) ({ frames := 2, cells := 0, slots := 0, locals := 42 }) [.ref (ad 0), .int ug, .int uk] (mW G.2.2.2 ad S) (pv (.int (M_kilos S ug uk).1) (mW G.2.2.2 ad (M_kilos S ug uk).2)) := by
  refine FC.go (lv := [(0, .ref (ad 0)), (1, .int ug), (2, .int uk)]) (by decide) (Nat.le_of_ble_eq_true rfl) rfl (fun p e s m args below meth c A H locs ls Q hx hb hr hts hown hml hlocks hnm hK hE hI hA hl hQ => ?_)
  have hown : s.vm.findClass RX4 = some m.cls := hown
  refine lv_aload_n hx hb dX4_kilos_0 rfl (lv_at hl 0 rfl) ?_
  refine lv_iload_n hx hb dX4_kilos_1 rfl (lv_at hl 1 rfl) ?_
  refine cSv (rest := [.ref (ad 0)]) hx hb hml hts hown hK hE hI (cM_isGoods G ad S ug) kM_126 ⟨Nat.le_of_ble_eq_true rfl, Nat.le_of_ble_eq_true rfl⟩ rfl rfl hl.1 rfl (Nat.le_of_ble_eq_true rfl) dX4_kilos_2 ⟨Nat.zero_le _, Nat.zero_le _⟩ (fun H locs hI => ?_)
  refine xb_ne (tgt := 12) hx hb dX4_kilos_5 (by decide) (fun c1 => ?_) (fun c1 => ?_)
  · refine lv_iload_n hx hb dX4_kilos_12 rfl (lv_at hl 2 rfl) ?_
    refine lv_iconst (v := 0) hx hb dX4_kilos_13 (by decide) ?_
    refine lv_iconst (v := 4) hx hb dX4_kilos_14 (by decide) ?_
    refine cSv (rest := [.ref (ad 0)]) hx hb hml hts hown hK hE hI (cM_isIn G ad S uk 0 4) kM_94 ⟨Nat.le_of_ble_eq_true rfl, Nat.le_of_ble_eq_true rfl⟩ rfl rfl hl.1 rfl (Nat.le_of_ble_eq_true rfl) dX4_kilos_15 ⟨Nat.zero_le _, Nat.zero_le _⟩ (fun H locs hI => ?_)
    refine xb_eq (tgt := 25) hx hb dX4_kilos_18 (by decide) (fun c2 => ?_) (fun c2 => ?_)
    · refine lv_iconst (v := 2) hx hb dX4_kilos_25 (by decide) ?_
      obtain ⟨S3, eS3⟩ : ∃ z : MS, z = mset S 29 0 2 := ⟨_, rfl⟩
      refine cVv (rest := []) hx hb hml hts hown hK hE hI (cM_fails2 G ad S) kM_101 ⟨Nat.le_of_ble_eq_true rfl, Nat.le_of_ble_eq_true rfl⟩ rfl rfl (kk := 4) (ii := 0) rfl rfl rfl hl.1 rfl (Nat.le_of_ble_eq_true rfl) dX4_kilos_26 ⟨Nat.zero_le _, Nat.zero_le _⟩ (fun H locs hI => ?_)
      rw [← eS3] at hI
      refine lv_if_eq (tgt := 34) hx hb dX4_kilos_29 (by decide) (fun h => absurd h (by decide)) (fun _ => ?_)
      refine lv_iconst (v := 0) hx hb dX4_kilos_32 (by decide) ?_
      have HE : M_kilos S ug uk = (0, S3) := by subst eS3; exact (if_pos c1).trans ((if_neg c2))
      exact rt_i hx hb hr hlocks hI hA hQ ⟨by rw [HE], by rw [HE]⟩ (Nat.zero_le _) (Nat.zero_le _) dX4_kilos_33
    · refine lv_iconst (v := 0) hx hb dX4_kilos_21 (by decide) ?_
      refine lv_goto (tgt := 26) hx hb dX4_kilos_22 (by decide) ?_
      obtain ⟨S4, eS4⟩ : ∃ z : MS, z = mset S 29 0 0 := ⟨_, rfl⟩
      refine cVv (rest := []) hx hb hml hts hown hK hE hI (cM_fails0 G ad S) kM_101 ⟨Nat.le_of_ble_eq_true rfl, Nat.le_of_ble_eq_true rfl⟩ rfl rfl (kk := 4) (ii := 0) rfl rfl rfl hl.1 rfl (Nat.le_of_ble_eq_true rfl) dX4_kilos_26 ⟨Nat.zero_le _, Nat.zero_le _⟩ (fun H locs hI => ?_)
      rw [← eS4] at hI
      refine lv_if_eq (tgt := 34) hx hb dX4_kilos_29 (by decide) (fun _ => ?_) (fun h => absurd h (by decide))
      refine lv_iload_n hx hb dX4_kilos_34 rfl (lv_at hl 2 rfl) ?_
      have hJ6 : ∀ (x5 : Int32) (H : Heap) (locs : List Loc), (x5 = if uk = 0 then (S4.1 26 ug.toNatClampNeg) else (if uk = 1 then (S4.1 27 ug.toNatClampNeg) else (if uk = 4 then (M_missing S4 ug) else (M_carried S4 ug (bI (uk = 3)))))) → (fI G.2.2.1 A s.heap (mW G.2.2.2 ad S4) H locs) → W p G.1 e ({ frames := 2, cells := 0, slots := 0, locals := 42 }) s m args below meth c H locs 0 0 Q (F0 m 89 ls [.int x5]) := by
        intro x5 H locs ex5 hI
        have HE : M_kilos S ug uk = (x5, S4) := by subst ex5 eS4; exact (if_pos c1).trans ((if_pos c2))
        exact rt_i hx hb hr hlocks hI hA hQ ⟨by rw [HE], by rw [HE]⟩ (Nat.zero_le _) (Nat.zero_le _) dX4_kilos_89
      refine lv_if_ne (tgt := 47) hx hb dX4_kilos_35 (by decide) (fun c7 => ?_) (fun c7 => ?_)
      · refine lv_iload_n hx hb dX4_kilos_47 rfl (lv_at hl 2 rfl) ?_
        refine lv_iconst (v := 1) hx hb dX4_kilos_48 (by decide) ?_
        refine lv_icmp_ne (tgt := 61) hx hb dX4_kilos_49 (by decide) (fun c8 => ?_) (fun c8 => ?_)
        · refine lv_iload_n hx hb dX4_kilos_61 rfl (lv_at hl 2 rfl) ?_
          refine lv_iconst (v := 4) hx hb dX4_kilos_62 (by decide) ?_
          refine lv_icmp_ne (tgt := 74) hx hb dX4_kilos_63 (by decide) (fun c9 => ?_) (fun c9 => ?_)
          · refine lv_aload_n hx hb dX4_kilos_74 rfl (lv_at hl 0 rfl) ?_
            refine lv_iload_n hx hb dX4_kilos_75 rfl (lv_at hl 1 rfl) ?_
            refine lv_iload_n hx hb dX4_kilos_76 rfl (lv_at hl 2 rfl) ?_
            refine lv_iconst (v := 3) hx hb dX4_kilos_77 (by decide) ?_
            have hJ10 : W p G.1 e ({ frames := 2, cells := 0, slots := 0, locals := 42 }) s m args below meth c H locs 0 0 Q (F0 m 86 ls [.int (bI (uk = 3)), .int ug, .ref (ad 0)]) := by
              refine cVv (rest := []) hx hb hml hts hown hK hE hI (cM_carried G ad S4 ug (bI (uk = 3)) (MNn_set hN (by decide) (by decide) eS4)) kM_209 ⟨Nat.le_of_ble_eq_true rfl, Nat.le_of_ble_eq_true rfl⟩ rfl rfl (kk := 4) (ii := 0) rfl rfl rfl hl.1 rfl (Nat.le_of_ble_eq_true rfl) dX4_kilos_86 ⟨Nat.zero_le _, Nat.zero_le _⟩ (fun H locs hI => ?_)
              exact hJ6 (M_carried S4 ug (bI (uk = 3))) _ _ (by exact ((if_neg c7).trans ((if_neg c8).trans (if_neg c9))).symm) hI
            refine lv_icmp_ne (tgt := 85) hx hb dX4_kilos_78 (by decide) (fun c11 => ?_) (fun c11 => ?_)
            · refine lv_iconst (v := 0) hx hb dX4_kilos_85 (by decide) ?_
              have eb12 : (0 : Int32) = bI (uk = 3) := (bI_f c11).symm
              rw [eb12]
              exact hJ10
            · refine lv_iconst (v := 1) hx hb dX4_kilos_81 (by decide) ?_
              refine lv_goto (tgt := 86) hx hb dX4_kilos_82 (by decide) ?_
              have eb13 : (1 : Int32) = bI (uk = 3) := (bI_t c11).symm
              rw [eb13]
              exact hJ10
          · refine lv_aload_n hx hb dX4_kilos_66 rfl (lv_at hl 0 rfl) ?_
            refine lv_iload_n hx hb dX4_kilos_67 rfl (lv_at hl 1 rfl) ?_
            refine cVv (rest := []) hx hb hml hts hown hK hE hI (cM_missing G ad S4 ug (isGoods_in c1)) kM_206 ⟨Nat.le_of_ble_eq_true rfl, Nat.le_of_ble_eq_true rfl⟩ rfl rfl (kk := 4) (ii := 0) rfl rfl rfl hl.1 rfl (Nat.le_of_ble_eq_true rfl) dX4_kilos_68 ⟨Nat.zero_le _, Nat.zero_le _⟩ (fun H locs hI => ?_)
            refine lv_goto (tgt := 89) hx hb dX4_kilos_71 (by decide) ?_
            exact hJ6 (M_missing S4 ug) _ _ (by exact ((if_neg c7).trans ((if_neg c8).trans (if_pos c9))).symm) hI
        · refine lv_aload_n hx hb dX4_kilos_52 rfl (lv_at hl 0 rfl) ?_
          refine gM_82 hx hb hts hown hK hI dX4_kilos_53 ?_
          refine lv_iload_n hx hb dX4_kilos_56 rfl (lv_at hl 1 rfl) ?_
          refine lM_27 hx hb hK hI (isGoods_in c1) dX4_kilos_57 ?_
          refine lv_goto (tgt := 89) hx hb dX4_kilos_58 (by decide) ?_
          exact hJ6 (S4.1 27 ug.toNatClampNeg) _ _ (by exact ((if_neg c7).trans (if_pos c8)).symm) hI
      · refine lv_aload_n hx hb dX4_kilos_38 rfl (lv_at hl 0 rfl) ?_
        refine gM_79 hx hb hts hown hK hI dX4_kilos_39 ?_
        refine lv_iload_n hx hb dX4_kilos_42 rfl (lv_at hl 1 rfl) ?_
        refine lM_26 hx hb hK hI (isGoods_in c1) dX4_kilos_43 ?_
        refine lv_goto (tgt := 89) hx hb dX4_kilos_44 (by decide) ?_
        exact hJ6 (S4.1 26 ug.toNatClampNeg) _ _ (by exact (if_pos c7).symm) hI
  · refine lv_iconst (v := 1) hx hb dX4_kilos_8 (by decide) ?_
    refine lv_goto (tgt := 26) hx hb dX4_kilos_9 (by decide) ?_
    obtain ⟨S14, eS14⟩ : ∃ z : MS, z = mset S 29 0 1 := ⟨_, rfl⟩
    refine cVv (rest := []) hx hb hml hts hown hK hE hI (cM_fails1 G ad S) kM_101 ⟨Nat.le_of_ble_eq_true rfl, Nat.le_of_ble_eq_true rfl⟩ rfl rfl (kk := 4) (ii := 0) rfl rfl rfl hl.1 rfl (Nat.le_of_ble_eq_true rfl) dX4_kilos_26 ⟨Nat.zero_le _, Nat.zero_le _⟩ (fun H locs hI => ?_)
    rw [← eS14] at hI
    refine lv_if_eq (tgt := 34) hx hb dX4_kilos_29 (by decide) (fun h => absurd h (by decide)) (fun _ => ?_)
    refine lv_iconst (v := 0) hx hb dX4_kilos_32 (by decide) ?_
    have HE : M_kilos S ug uk = (0, S14) := by subst eS14; exact (if_neg c1)
    exact rt_i hx hb hr hlocks hI hA hQ ⟨by rw [HE], by rw [HE]⟩ (Nat.zero_le _) (Nat.zero_le _) dX4_kilos_33
