def M_why (S : MS) (uv : Int32) : Int32 × MS :=
  if M_isVehicle S uv then
    let S3 := mset S 29 0 0
    let x4 := if (S3.1 20 uv.toNatClampNeg) = 2 then (M_against S3 uv) else (-1)
    (x4, S3)
  else
    let S2 := mset S 29 0 1
    (0, S2)
set_option maxHeartbeats 4000000 in
set_option maxRecDepth 100000 in
theorem cM_why (G : GX) (ad : Nat → Nat) (S : MS) (uv : Int32) {np nv t : Nat} (hM : MI S np nv t) : FC G yX4_why cX4_why 2 (some .int) ({ frames := 3, cells := 0, slots := 0, locals := 66 }) [.ref (ad 0), .int uv] (mW G.2.2.2 ad S) (pv (.int (M_why S uv).1) (mW G.2.2.2 ad (M_why S uv).2)) := by
  refine FC.go (lv := [(0, .ref (ad 0)), (1, .int uv)]) (by decide) (Nat.le_of_ble_eq_true rfl) rfl (fun p e s m args below meth c A H locs ls Q hx hb hr hts hown hml hlocks hnm hK hE hI hA hl hQ => ?_)
  have hown : s.vm.findClass RX4 = some m.cls := hown
  have hN := hM.1
  have hG := hM.2.1
  refine lv_aload_n hx hb dX4_why_0 rfl (lv_at hl 0 rfl) ?_
  refine lv_aload_n hx hb dX4_why_1 rfl (lv_at hl 0 rfl) ?_
  refine lv_iload_n hx hb dX4_why_2 rfl (lv_at hl 1 rfl) ?_
  refine cVv (rest := [.ref (ad 0)]) hx hb hml hts hown hK hE hI (cM_isVehicle G ad S uv) kM_123 ⟨Nat.le_of_ble_eq_true rfl, Nat.le_of_ble_eq_true rfl⟩ rfl rfl (kk := 4) (ii := 0) rfl rfl rfl hl.1 rfl (Nat.le_of_ble_eq_true rfl) dX4_why_3 ⟨Nat.zero_le _, Nat.zero_le _⟩ (fun H locs hI => ?_)
  refine xb_eq (tgt := 13) hx hb dX4_why_6 (by decide) (fun c1 => ?_) (fun c1 => ?_)
  · refine lv_iconst (v := 1) hx hb dX4_why_13 (by decide) ?_
    obtain ⟨S2, eS2⟩ : ∃ z : MS, z = mset S 29 0 1 := ⟨_, rfl⟩
    refine cVv (rest := []) hx hb hml hts hown hK hE hI (cM_fails1 G ad S) kM_101 ⟨Nat.le_of_ble_eq_true rfl, Nat.le_of_ble_eq_true rfl⟩ rfl rfl (kk := 4) (ii := 0) rfl rfl rfl hl.1 rfl (Nat.le_of_ble_eq_true rfl) dX4_why_14 ⟨Nat.zero_le _, Nat.zero_le _⟩ (fun H locs hI => ?_)
    rw [← eS2] at hI
    refine lv_if_eq (tgt := 24) hx hb dX4_why_17 (by decide) (fun h => absurd h (by decide)) (fun _ => ?_)
    refine lv_iconst (v := 0) hx hb dX4_why_20 (by decide) ?_
    refine lv_goto (tgt := 43) hx hb dX4_why_21 (by decide) ?_
    have HE : M_why S uv = (0, S2) := by subst eS2; exact (if_neg c1)
    exact rt_i hx hb hr hlocks hI hA hQ ⟨by rw [HE], by rw [HE]⟩ (Nat.zero_le _) (Nat.zero_le _) dX4_why_43
  · refine lv_iconst (v := 0) hx hb dX4_why_9 (by decide) ?_
    refine lv_goto (tgt := 14) hx hb dX4_why_10 (by decide) ?_
    obtain ⟨S3, eS3⟩ : ∃ z : MS, z = mset S 29 0 0 := ⟨_, rfl⟩
    refine cVv (rest := []) hx hb hml hts hown hK hE hI (cM_fails0 G ad S) kM_101 ⟨Nat.le_of_ble_eq_true rfl, Nat.le_of_ble_eq_true rfl⟩ rfl rfl (kk := 4) (ii := 0) rfl rfl rfl hl.1 rfl (Nat.le_of_ble_eq_true rfl) dX4_why_14 ⟨Nat.zero_le _, Nat.zero_le _⟩ (fun H locs hI => ?_)
    rw [← eS3] at hI
    refine lv_if_eq (tgt := 24) hx hb dX4_why_17 (by decide) (fun _ => ?_) (fun h => absurd h (by decide))
    refine lv_aload_n hx hb dX4_why_24 rfl (lv_at hl 0 rfl) ?_
    refine gM_60 hx hb hts hown hK hI dX4_why_25 ?_
    refine lv_iload_n hx hb dX4_why_28 rfl (lv_at hl 1 rfl) ?_
    refine lM_20 hx hb hK hI (isVehicle_in hN c1) dX4_why_29 ?_
    refine lv_iconst (v := 2) hx hb dX4_why_30 (by decide) ?_
    have hJ5 : ∀ (x4 : Int32) (H : Heap) (locs : List Loc), (x4 = if (S3.1 20 uv.toNatClampNeg) = 2 then (M_against S3 uv) else (-1)) → (fI G.2.2.1 A s.heap (mW G.2.2.2 ad S3) H locs) → W p G.1 e ({ frames := 3, cells := 0, slots := 0, locals := 66 }) s m args below meth c H locs 0 0 Q (F0 m 43 ls [.int x4]) := by
      intro x4 H locs ex4 hI
      have HE : M_why S uv = (x4, S3) := by subst ex4 eS3; exact (if_pos c1)
      exact rt_i hx hb hr hlocks hI hA hQ ⟨by rw [HE], by rw [HE]⟩ (Nat.zero_le _) (Nat.zero_le _) dX4_why_43
    refine lv_icmp_ne (tgt := 42) hx hb dX4_why_31 (by decide) (fun c6 => ?_) (fun c6 => ?_)
    · refine lv_iconst (v := (-1)) hx hb dX4_why_42 (by decide) ?_
      exact hJ5 (-1) _ _ (by exact (if_neg c6).symm) hI
    · refine lv_aload_n hx hb dX4_why_34 rfl (lv_at hl 0 rfl) ?_
      refine lv_iload_n hx hb dX4_why_35 rfl (lv_at hl 1 rfl) ?_
      refine cVv (rest := []) hx hb hml hts hown hK hE hI (cM_against G ad S3 uv (isVehicle_in hN c1) (MI_qv (MI_set hM (by decide) eS3) hM.1 c1 c6) (MNn_set hN (by decide) (by decide) eS3)) kM_190 ⟨Nat.le_of_ble_eq_true rfl, Nat.le_of_ble_eq_true rfl⟩ rfl rfl (kk := 4) (ii := 0) rfl rfl rfl hl.1 rfl (Nat.le_of_ble_eq_true rfl) dX4_why_36 ⟨Nat.zero_le _, Nat.zero_le _⟩ (fun H locs hI => ?_)
      refine lv_goto (tgt := 43) hx hb dX4_why_39 (by decide) ?_
      exact hJ5 (M_against S3 uv) _ _ (by exact (if_pos c6).symm) hI

def M_speed (S : MS) (uv : Int32) (up : Int32) : Int32 × MS :=
  if M_isVehicle S uv then
    if M_isPiece S up then
      let S5 := mset S 29 0 0
      (M_speedOn S5 uv up, S5)
    else
      let S4 := mset S 29 0 1
      (0, S4)
  else
    let S2 := mset S 29 0 1
    (0, S2)
set_option maxHeartbeats 4000000 in
set_option maxRecDepth 100000 in
theorem cM_speed (G : GX) (ad : Nat → Nat) (S : MS) (uv : Int32) (up : Int32) {np nv t : Nat} (hM : MI S np nv t) : FC G yX4_speed cX4_speed 3 (some .int) ({ frames := 2, cells := 0, slots := 0, locals := 50 }) [.ref (ad 0), .int uv, .int up] (mW G.2.2.2 ad S) (pv (.int (M_speed S uv up).1) (mW G.2.2.2 ad (M_speed S uv up).2)) := by
  refine FC.go (lv := [(0, .ref (ad 0)), (1, .int uv), (2, .int up)]) (by decide) (Nat.le_of_ble_eq_true rfl) rfl (fun p e s m args below meth c A H locs ls Q hx hb hr hts hown hml hlocks hnm hK hE hI hA hl hQ => ?_)
  have hown : s.vm.findClass RX4 = some m.cls := hown
  have hN := hM.1
  have hG := hM.2.1
  refine lv_aload_n hx hb dX4_speed_0 rfl (lv_at hl 0 rfl) ?_
  refine lv_aload_n hx hb dX4_speed_1 rfl (lv_at hl 0 rfl) ?_
  refine lv_iload_n hx hb dX4_speed_2 rfl (lv_at hl 1 rfl) ?_
  refine cVv (rest := [.ref (ad 0)]) hx hb hml hts hown hK hE hI (cM_isVehicle G ad S uv) kM_123 ⟨Nat.le_of_ble_eq_true rfl, Nat.le_of_ble_eq_true rfl⟩ rfl rfl (kk := 4) (ii := 0) rfl rfl rfl hl.1 rfl (Nat.le_of_ble_eq_true rfl) dX4_speed_3 ⟨Nat.zero_le _, Nat.zero_le _⟩ (fun H locs hI => ?_)
  refine xb_eq (tgt := 21) hx hb dX4_speed_6 (by decide) (fun c1 => ?_) (fun c1 => ?_)
  · refine lv_iconst (v := 1) hx hb dX4_speed_21 (by decide) ?_
    obtain ⟨S2, eS2⟩ : ∃ z : MS, z = mset S 29 0 1 := ⟨_, rfl⟩
    refine cVv (rest := []) hx hb hml hts hown hK hE hI (cM_fails1 G ad S) kM_101 ⟨Nat.le_of_ble_eq_true rfl, Nat.le_of_ble_eq_true rfl⟩ rfl rfl (kk := 4) (ii := 0) rfl rfl rfl hl.1 rfl (Nat.le_of_ble_eq_true rfl) dX4_speed_22 ⟨Nat.zero_le _, Nat.zero_le _⟩ (fun H locs hI => ?_)
    rw [← eS2] at hI
    refine lv_if_eq (tgt := 32) hx hb dX4_speed_25 (by decide) (fun h => absurd h (by decide)) (fun _ => ?_)
    refine lv_iconst (v := 0) hx hb dX4_speed_28 (by decide) ?_
    refine lv_goto (tgt := 38) hx hb dX4_speed_29 (by decide) ?_
    have HE : M_speed S uv up = (0, S2) := by subst eS2; exact (if_neg c1)
    exact rt_i hx hb hr hlocks hI hA hQ ⟨by rw [HE], by rw [HE]⟩ (Nat.zero_le _) (Nat.zero_le _) dX4_speed_38
  · refine lv_aload_n hx hb dX4_speed_9 rfl (lv_at hl 0 rfl) ?_
    refine lv_iload_n hx hb dX4_speed_10 rfl (lv_at hl 2 rfl) ?_
    refine cVv (rest := [.ref (ad 0)]) hx hb hml hts hown hK hE hI (cM_isPiece G ad S up) kM_109 ⟨Nat.le_of_ble_eq_true rfl, Nat.le_of_ble_eq_true rfl⟩ rfl rfl (kk := 4) (ii := 0) rfl rfl rfl hl.1 rfl (Nat.le_of_ble_eq_true rfl) dX4_speed_11 ⟨Nat.zero_le _, Nat.zero_le _⟩ (fun H locs hI => ?_)
    refine xb_eq (tgt := 21) hx hb dX4_speed_14 (by decide) (fun c3 => ?_) (fun c3 => ?_)
    · refine lv_iconst (v := 1) hx hb dX4_speed_21 (by decide) ?_
      obtain ⟨S4, eS4⟩ : ∃ z : MS, z = mset S 29 0 1 := ⟨_, rfl⟩
      refine cVv (rest := []) hx hb hml hts hown hK hE hI (cM_fails1 G ad S) kM_101 ⟨Nat.le_of_ble_eq_true rfl, Nat.le_of_ble_eq_true rfl⟩ rfl rfl (kk := 4) (ii := 0) rfl rfl rfl hl.1 rfl (Nat.le_of_ble_eq_true rfl) dX4_speed_22 ⟨Nat.zero_le _, Nat.zero_le _⟩ (fun H locs hI => ?_)
      rw [← eS4] at hI
      refine lv_if_eq (tgt := 32) hx hb dX4_speed_25 (by decide) (fun h => absurd h (by decide)) (fun _ => ?_)
      refine lv_iconst (v := 0) hx hb dX4_speed_28 (by decide) ?_
      refine lv_goto (tgt := 38) hx hb dX4_speed_29 (by decide) ?_
      have HE : M_speed S uv up = (0, S4) := by subst eS4; exact (if_pos c1).trans ((if_neg c3))
      exact rt_i hx hb hr hlocks hI hA hQ ⟨by rw [HE], by rw [HE]⟩ (Nat.zero_le _) (Nat.zero_le _) dX4_speed_38
    · refine lv_iconst (v := 0) hx hb dX4_speed_17 (by decide) ?_
      refine lv_goto (tgt := 22) hx hb dX4_speed_18 (by decide) ?_
      obtain ⟨S5, eS5⟩ : ∃ z : MS, z = mset S 29 0 0 := ⟨_, rfl⟩
      refine cVv (rest := []) hx hb hml hts hown hK hE hI (cM_fails0 G ad S) kM_101 ⟨Nat.le_of_ble_eq_true rfl, Nat.le_of_ble_eq_true rfl⟩ rfl rfl (kk := 4) (ii := 0) rfl rfl rfl hl.1 rfl (Nat.le_of_ble_eq_true rfl) dX4_speed_22 ⟨Nat.zero_le _, Nat.zero_le _⟩ (fun H locs hI => ?_)
      rw [← eS5] at hI
      refine lv_if_eq (tgt := 32) hx hb dX4_speed_25 (by decide) (fun _ => ?_) (fun h => absurd h (by decide))
      refine lv_aload_n hx hb dX4_speed_32 rfl (lv_at hl 0 rfl) ?_
      refine lv_iload_n hx hb dX4_speed_33 rfl (lv_at hl 1 rfl) ?_
      refine lv_iload_n hx hb dX4_speed_34 rfl (lv_at hl 2 rfl) ?_
      refine cVv (rest := []) hx hb hml hts hown hK hE hI (cM_speedOn G ad S5 uv up (isVehicle_in hN c1) (isPiece_in hN c3) (MI_spv (MI_set hM (by decide) eS5) hM.1 c1 c3)) kM_160 ⟨Nat.le_of_ble_eq_true rfl, Nat.le_of_ble_eq_true rfl⟩ rfl rfl (kk := 4) (ii := 0) rfl rfl rfl hl.1 rfl (Nat.le_of_ble_eq_true rfl) dX4_speed_35 ⟨Nat.zero_le _, Nat.zero_le _⟩ (fun H locs hI => ?_)
      have HE : M_speed S uv up = (M_speedOn S5 uv up, S5) := by subst eS5; exact (if_pos c1).trans ((if_pos c3))
      exact rt_i hx hb hr hlocks hI hA hQ ⟨by rw [HE], by rw [HE]⟩ (Nat.zero_le _) (Nat.zero_le _) dX4_speed_38

def M_minutes (S : MS) (uv : Int32) (up : Int32) : Int32 × MS :=
  if M_isVehicle S uv then
    if M_isPiece S up then
      let S5 := mset S 29 0 0
      (M_minutesOn S5 uv up, S5)
    else
      let S4 := mset S 29 0 1
      (0, S4)
  else
    let S2 := mset S 29 0 1
    (0, S2)
set_option maxHeartbeats 4000000 in
set_option maxRecDepth 100000 in
theorem cM_minutes (G : GX) (ad : Nat → Nat) (S : MS) (uv : Int32) (up : Int32) {np nv t : Nat} (hM : MI S np nv t) : FC G yX4_minutes cX4_minutes 3 (some .int) ({ frames := 3, cells := 0, slots := 0, locals := 73 }) [.ref (ad 0), .int uv, .int up] (mW G.2.2.2 ad S) (pv (.int (M_minutes S uv up).1) (mW G.2.2.2 ad (M_minutes S uv up).2)) := by
  refine FC.go (lv := [(0, .ref (ad 0)), (1, .int uv), (2, .int up)]) (by decide) (Nat.le_of_ble_eq_true rfl) rfl (fun p e s m args below meth c A H locs ls Q hx hb hr hts hown hml hlocks hnm hK hE hI hA hl hQ => ?_)
  have hown : s.vm.findClass RX4 = some m.cls := hown
  have hN := hM.1
  have hG := hM.2.1
  refine lv_aload_n hx hb dX4_minutes_0 rfl (lv_at hl 0 rfl) ?_
  refine lv_aload_n hx hb dX4_minutes_1 rfl (lv_at hl 0 rfl) ?_
  refine lv_iload_n hx hb dX4_minutes_2 rfl (lv_at hl 1 rfl) ?_
  refine cVv (rest := [.ref (ad 0)]) hx hb hml hts hown hK hE hI (cM_isVehicle G ad S uv) kM_123 ⟨Nat.le_of_ble_eq_true rfl, Nat.le_of_ble_eq_true rfl⟩ rfl rfl (kk := 4) (ii := 0) rfl rfl rfl hl.1 rfl (Nat.le_of_ble_eq_true rfl) dX4_minutes_3 ⟨Nat.zero_le _, Nat.zero_le _⟩ (fun H locs hI => ?_)
  refine xb_eq (tgt := 21) hx hb dX4_minutes_6 (by decide) (fun c1 => ?_) (fun c1 => ?_)
  · refine lv_iconst (v := 1) hx hb dX4_minutes_21 (by decide) ?_
    obtain ⟨S2, eS2⟩ : ∃ z : MS, z = mset S 29 0 1 := ⟨_, rfl⟩
    refine cVv (rest := []) hx hb hml hts hown hK hE hI (cM_fails1 G ad S) kM_101 ⟨Nat.le_of_ble_eq_true rfl, Nat.le_of_ble_eq_true rfl⟩ rfl rfl (kk := 4) (ii := 0) rfl rfl rfl hl.1 rfl (Nat.le_of_ble_eq_true rfl) dX4_minutes_22 ⟨Nat.zero_le _, Nat.zero_le _⟩ (fun H locs hI => ?_)
    rw [← eS2] at hI
    refine lv_if_eq (tgt := 32) hx hb dX4_minutes_25 (by decide) (fun h => absurd h (by decide)) (fun _ => ?_)
    refine lv_iconst (v := 0) hx hb dX4_minutes_28 (by decide) ?_
    refine lv_goto (tgt := 38) hx hb dX4_minutes_29 (by decide) ?_
    have HE : M_minutes S uv up = (0, S2) := by subst eS2; exact (if_neg c1)
    exact rt_i hx hb hr hlocks hI hA hQ ⟨by rw [HE], by rw [HE]⟩ (Nat.zero_le _) (Nat.zero_le _) dX4_minutes_38
  · refine lv_aload_n hx hb dX4_minutes_9 rfl (lv_at hl 0 rfl) ?_
    refine lv_iload_n hx hb dX4_minutes_10 rfl (lv_at hl 2 rfl) ?_
    refine cVv (rest := [.ref (ad 0)]) hx hb hml hts hown hK hE hI (cM_isPiece G ad S up) kM_109 ⟨Nat.le_of_ble_eq_true rfl, Nat.le_of_ble_eq_true rfl⟩ rfl rfl (kk := 4) (ii := 0) rfl rfl rfl hl.1 rfl (Nat.le_of_ble_eq_true rfl) dX4_minutes_11 ⟨Nat.zero_le _, Nat.zero_le _⟩ (fun H locs hI => ?_)
    refine xb_eq (tgt := 21) hx hb dX4_minutes_14 (by decide) (fun c3 => ?_) (fun c3 => ?_)
    · refine lv_iconst (v := 1) hx hb dX4_minutes_21 (by decide) ?_
      obtain ⟨S4, eS4⟩ : ∃ z : MS, z = mset S 29 0 1 := ⟨_, rfl⟩
      refine cVv (rest := []) hx hb hml hts hown hK hE hI (cM_fails1 G ad S) kM_101 ⟨Nat.le_of_ble_eq_true rfl, Nat.le_of_ble_eq_true rfl⟩ rfl rfl (kk := 4) (ii := 0) rfl rfl rfl hl.1 rfl (Nat.le_of_ble_eq_true rfl) dX4_minutes_22 ⟨Nat.zero_le _, Nat.zero_le _⟩ (fun H locs hI => ?_)
      rw [← eS4] at hI
      refine lv_if_eq (tgt := 32) hx hb dX4_minutes_25 (by decide) (fun h => absurd h (by decide)) (fun _ => ?_)
      refine lv_iconst (v := 0) hx hb dX4_minutes_28 (by decide) ?_
      refine lv_goto (tgt := 38) hx hb dX4_minutes_29 (by decide) ?_
      have HE : M_minutes S uv up = (0, S4) := by subst eS4; exact (if_pos c1).trans ((if_neg c3))
      exact rt_i hx hb hr hlocks hI hA hQ ⟨by rw [HE], by rw [HE]⟩ (Nat.zero_le _) (Nat.zero_le _) dX4_minutes_38
    · refine lv_iconst (v := 0) hx hb dX4_minutes_17 (by decide) ?_
      refine lv_goto (tgt := 22) hx hb dX4_minutes_18 (by decide) ?_
      obtain ⟨S5, eS5⟩ : ∃ z : MS, z = mset S 29 0 0 := ⟨_, rfl⟩
      refine cVv (rest := []) hx hb hml hts hown hK hE hI (cM_fails0 G ad S) kM_101 ⟨Nat.le_of_ble_eq_true rfl, Nat.le_of_ble_eq_true rfl⟩ rfl rfl (kk := 4) (ii := 0) rfl rfl rfl hl.1 rfl (Nat.le_of_ble_eq_true rfl) dX4_minutes_22 ⟨Nat.zero_le _, Nat.zero_le _⟩ (fun H locs hI => ?_)
      rw [← eS5] at hI
      refine lv_if_eq (tgt := 32) hx hb dX4_minutes_25 (by decide) (fun _ => ?_) (fun h => absurd h (by decide))
      refine lv_aload_n hx hb dX4_minutes_32 rfl (lv_at hl 0 rfl) ?_
      refine lv_iload_n hx hb dX4_minutes_33 rfl (lv_at hl 1 rfl) ?_
      refine lv_iload_n hx hb dX4_minutes_34 rfl (lv_at hl 2 rfl) ?_
      refine cVv (rest := []) hx hb hml hts hown hK hE hI (cM_minutesOn G ad S5 uv up (isVehicle_in hN c1) (isPiece_in hN c3) (MI_spv (MI_set hM (by decide) eS5) hM.1 c1 c3)) kM_181 ⟨Nat.le_of_ble_eq_true rfl, Nat.le_of_ble_eq_true rfl⟩ rfl rfl (kk := 4) (ii := 0) rfl rfl rfl hl.1 rfl (Nat.le_of_ble_eq_true rfl) dX4_minutes_35 ⟨Nat.zero_le _, Nat.zero_le _⟩ (fun H locs hI => ?_)
      have HE : M_minutes S uv up = (M_minutesOn S5 uv up, S5) := by subst eS5; exact (if_pos c1).trans ((if_pos c3))
      exact rt_i hx hb hr hlocks hI hA hQ ⟨by rw [HE], by rw [HE]⟩ (Nat.zero_le _) (Nat.zero_le _) dX4_minutes_38

def M_minutesAnew (S : MS) (uv : Int32) (up : Int32) : Int32 × MS :=
  let S1 := (M_minutes S uv up).2
  ((M_minutes S uv up).1, S1)
set_option maxHeartbeats 4000000 in
set_option maxRecDepth 100000 in
theorem cM_minutesAnew (G : GX) (ad : Nat → Nat) (S : MS) (uv : Int32) (up : Int32) {np nv t : Nat} (hM : MI S np nv t) : FC G yX4_minutesAnew cX4_minutesAnew 3 (some .int) ({ frames := 4, cells := 0, slots := 0, locals := 95 }) [.ref (ad 0), .int uv, .int up] (mW G.2.2.2 ad S) (pv (.int (M_minutesAnew S uv up).1) (mW G.2.2.2 ad (M_minutesAnew S uv up).2)) := by
  refine FC.go (lv := [(0, .ref (ad 0)), (1, .int uv), (2, .int up)]) (by decide) (Nat.le_of_ble_eq_true rfl) rfl (fun p e s m args below meth c A H locs ls Q hx hb hr hts hown hml hlocks hnm hK hE hI hA hl hQ => ?_)
  have hown : s.vm.findClass RX4 = some m.cls := hown
  have hN := hM.1
  have hG := hM.2.1
  refine lv_aload_n hx hb dX4_minutesAnew_0 rfl (lv_at hl 0 rfl) ?_
  refine lv_iload_n hx hb dX4_minutesAnew_1 rfl (lv_at hl 1 rfl) ?_
  refine lv_iload_n hx hb dX4_minutesAnew_2 rfl (lv_at hl 2 rfl) ?_
  obtain ⟨S1, eS1⟩ : ∃ z : MS, z = (M_minutes S uv up).2 := ⟨_, rfl⟩
  refine cVv (rest := []) hx hb hml hts hown hK hE hI (cM_minutes G ad S uv up hM) kM_203 ⟨Nat.le_of_ble_eq_true rfl, Nat.le_of_ble_eq_true rfl⟩ rfl rfl (kk := 4) (ii := 0) rfl rfl rfl hl.1 rfl (Nat.le_of_ble_eq_true rfl) dX4_minutesAnew_3 ⟨Nat.zero_le _, Nat.zero_le _⟩ (fun H locs hI => ?_)
  rw [← eS1] at hI
  have HE : M_minutesAnew S uv up = ((M_minutes S uv up).1, S1) := by subst eS1; exact rfl
  exact rt_i hx hb hr hlocks hI hA hQ ⟨by rw [HE], by rw [HE]⟩ (Nat.zero_le _) (Nat.zero_le _) dX4_minutesAnew_6

theorem i32_nle {a b : Int32} (h : ¬ a ≤ b) : b < a := by
  rw [Int32.le_iff_toInt_le] at h
  rw [Int32.lt_iff_toInt_lt]
  omega
def M_ends_s (S2 : MS) (n : Nat) : MS :=
  let S4 := if (S2.1 1 0) ≤ 0 then (if 0 ≤ (S2.1 1 0) then S2 else (M_thaws S2 (nI n))) else (if M_isWater S2 (nI n) then (M_freezes S2 (nI n)) else (if 0 ≤ (S2.1 1 0) then S2 else (M_thaws S2 (nI n))))
  let x7 := (nI n) + 1
  S4
def M_ends_f (S : MS) : Nat → MS
  | 0 => S
  | n + 1 => M_ends_s (M_ends_f S n) n

def M_ends (S : MS) : MS :=
  let S2 := M_ends_f S (S.1 3 0).toNatClampNeg
  S2
theorem MI_ends_s {S : MS} {np nv t n : Nat} (h : MI S np nv t) (hn : n < np) : MI (M_ends_s S n) np nv t := by
  have hcold : (if 0 ≤ S.1 1 0 then S else M_thaws S (nI n)) = (if 0 ≤ S.1 1 0 then S else M_thaws S (nI n)) → MI (if 0 ≤ S.1 1 0 then S else M_thaws S (nI n)) np nv t := fun _ => by
    by_cases c : 0 ≤ S.1 1 0
    · rw [if_pos c]; exact h
    · rw [if_neg c]; exact MI_thaws h hn (i32_nle c)
  unfold M_ends_s
  dsimp only
  by_cases c1 : S.1 1 0 ≤ 0
  · rw [if_pos c1]
    exact hcold rfl
  · rw [if_neg c1]
    by_cases c2 : M_isWater S (nI n)
    · rw [if_pos c2]
      exact MI_freezes h hn (i32_nle c1)
    · rw [if_neg c2]
      exact hcold rfl
theorem MI_ends_f {S : MS} {np nv t n : Nat} (h : MI S np nv t) (hn : n ≤ np) : MI (M_ends_f S n) np nv t := by
  induction n with
  | zero => exact h
  | succ n ih => exact MI_ends_s (ih (by omega)) (by omega)
theorem MI_ends {S : MS} {np nv t : Nat} (h : MI S np nv t) : MI (M_ends S) np nv t := by
  have e : (S.1 3 0).toNatClampNeg = np := by rw [h.1.1, nI_clamp (by have := h.1.2.1; omega)]
  exact MI_ends_f h (by omega)
set_option maxHeartbeats 4000000 in
set_option maxRecDepth 100000 in
theorem cM_ends (G : GX) (ad : Nat → Nat) (S : MS) {np nv t : Nat} (hM : MI S np nv t) : FC G yX4_ends cX4_ends 2 none ({ frames := 1, cells := 0, slots := 0, locals := 27 }) [.ref (ad 0)] (mW G.2.2.2 ad S) (p0 (mW G.2.2.2 ad (M_ends S))) := by
  refine FC.go (lv := [(0, .ref (ad 0))]) (by decide) (Nat.le_of_ble_eq_true rfl) rfl (fun p e s m args below meth c A H locs ls Q hx hb hr hts hown hml hlocks hnm hK hE hI hA hl hQ => ?_)
  have hown : s.vm.findClass RX4 = some m.cls := hown
  have hN := hM.1
  have hG := hM.2.1
  have hv16 := hM.1.2.2.2
  have hp10 := hM.1.2.1
  refine lv_iconst (v := 0) hx hb dX4_ends_0 (by decide) ?_
  refine lv_istore_n (lv' := [(1, .int 0), (0, .ref (ad 0))]) hx hb dX4_ends_1 rfl hl (by decide) rfl (fun ls hl => ?_)
  have hL3 : ∀ (k n : Nat), n + k = np → ∀ (i_ : Int32) (S2 : MS) (H : Heap) (locs : List Loc) (ls : Array Slot), (i_ = nI n) → (S2 = M_ends_f S n) → (fI G.2.2.1 A s.heap (mW G.2.2.2 ad S2) H locs) → (lv_has ls 2 [(1, .int i_), (0, .ref (ad 0))]) → W p G.1 e ({ frames := 1, cells := 0, slots := 0, locals := 27 }) s m args below meth c H locs 0 0 Q (F0 m 2 ls []) := by
    intro k
    induction k with
    | zero =>
      intro n hnk i_ S2 H locs ls ei eS2 hI hl
      subst ei
      have hM2 : MI S2 np nv t := by rw [eS2]; exact MI_ends_f hM (by omega)
      have hv16 := hM2.1.2.2.2
      have hp10 := hM2.1.2.1
      refine lv_iload_n hx hb dX4_ends_2 rfl (lv_at hl 0 rfl) ?_
      refine lv_aload_n hx hb dX4_ends_3 rfl (lv_at hl 1 rfl) ?_
      refine gM_91 hx hb hts hown hK hI dX4_ends_4 ?_
      refine lv_icmp_ge (tgt := 51) hx hb dX4_ends_7 (by decide) (fun _ => ?_) (fun h => absurd (by rw [hM2.1.1]; exact nI_le (by omega) (by omega)) h)
      have hn9 : n = (S.1 3 0).toNatClampNeg := by rw [(hM).1.1, nI_clamp (by omega)]; omega
      rw [hn9] at eS2
      have hl : lv_has ls 2 [(0, .ref (ad 0))] := lv_sub hl [1] rfl
      have HE : M_ends S = S2 := by subst eS2; exact rfl
      exact rt_v hx hb hr hlocks hI hA hQ ⟨rfl, by rw [HE]⟩ (Nat.zero_le _) (Nat.zero_le _) dX4_ends_51
    | succ k ih =>
      intro n hnk i_ S2 H locs ls ei eS2 hI hl
      subst ei
      have hM2 : MI S2 np nv t := by rw [eS2]; exact MI_ends_f hM (by omega)
      have hv16 := hM2.1.2.2.2
      have hp10 := hM2.1.2.1
      refine lv_iload_n hx hb dX4_ends_2 rfl (lv_at hl 0 rfl) ?_
      refine lv_aload_n hx hb dX4_ends_3 rfl (lv_at hl 1 rfl) ?_
      refine gM_91 hx hb hts hown hK hI dX4_ends_4 ?_
      refine lv_icmp_ge (tgt := 51) hx hb dX4_ends_7 (by decide) (fun h => absurd h (by rw [hM2.1.1]; exact nI_ge (by omega) (by omega))) (fun _ => ?_)
      refine lv_aload_n hx hb dX4_ends_10 rfl (lv_at hl 1 rfl) ?_
      refine gM_106 hx hb hts hown hK hI dX4_ends_11 ?_
      have hJ6 : ∀ (S4 : MS) (H : Heap) (locs : List Loc), (S4 = if (S2.1 1 0) ≤ 0 then (if 0 ≤ (S2.1 1 0) then S2 else (M_thaws S2 (nI n))) else (if M_isWater S2 (nI n) then (M_freezes S2 (nI n)) else (if 0 ≤ (S2.1 1 0) then S2 else (M_thaws S2 (nI n))))) → (fI G.2.2.1 A s.heap (mW G.2.2.2 ad S4) H locs) → (MI S4 np nv t) → W p G.1 e ({ frames := 1, cells := 0, slots := 0, locals := 27 }) s m args below meth c H locs 0 0 Q (F0 m 45 ls []) := by
        intro S4 H locs eS4 hI hf5
        obtain ⟨x7, ex7⟩ : ∃ z : Int32, z = (nI n) + 1 := ⟨_, rfl⟩
        refine lv_iinc (v := x7) (lv' := [(1, .int x7), (0, .ref (ad 0))]) hx hb dX4_ends_45 hl (k := 0) rfl (by rw [ex7]; rfl) (by decide) rfl (fun ls hl => ?_)
        refine lv_goto (tgt := 2) hx hb dX4_ends_48 (by decide) ?_
        have HE : M_ends_s S2 n = S4 := by subst ex7 eS4; exact rfl
        exact ih (n + 1) (by omega) x7 S4 H locs ls (by rw [ex7]; exact nI_1 n) (by show _ = M_ends_s (M_ends_f S n) n; rw [← eS2]; exact HE.symm) hI (lv_sub hl [0, 1] rfl)
      refine lv_if_le (tgt := 33) hx hb dX4_ends_14 (by decide) (fun c8 => ?_) (fun c8 => ?_)
      · refine lv_aload_n hx hb dX4_ends_33 rfl (lv_at hl 1 rfl) ?_
        refine gM_106 hx hb hts hown hK hI dX4_ends_34 ?_
        refine lv_if_ge (tgt := 45) hx hb dX4_ends_37 (by decide) (fun c9 => ?_) (fun c9 => ?_)
        · exact hJ6 S2 _ _ (by exact ((if_pos c8).trans (if_pos c9)).symm) hI hM2
        · refine lv_aload_n hx hb dX4_ends_40 rfl (lv_at hl 1 rfl) ?_
          refine lv_iload_n hx hb dX4_ends_41 rfl (lv_at hl 0 rfl) ?_
          obtain ⟨S10, eS10⟩ : ∃ z : MS, z = M_thaws S2 (nI n) := ⟨_, rfl⟩
          refine cV0 (rest := []) hx hb hml hts hown hK hE hI (cM_thaws G ad S2 (nI n) (vp_in_nI (by omega) (by decide))) kM_149 ⟨Nat.le_of_ble_eq_true rfl, Nat.le_of_ble_eq_true rfl⟩ rfl rfl (kk := 4) (ii := 0) rfl rfl rfl hl.1 rfl (Nat.le_of_ble_eq_true rfl) dX4_ends_42 ⟨Nat.zero_le _, Nat.zero_le _⟩ (fun H locs hI => ?_)
          rw [← eS10] at hI
          exact hJ6 S10 _ _ (by subst eS10; exact ((if_pos c8).trans (if_neg c9)).symm) hI (eS10 ▸ MI_thaws hM2 (by omega) (i32_nle c9))
      · refine lv_aload_n hx hb dX4_ends_17 rfl (lv_at hl 1 rfl) ?_
        refine lv_iload_n hx hb dX4_ends_18 rfl (lv_at hl 0 rfl) ?_
        refine cVv (rest := []) hx hb hml hts hown hK hE hI (cM_isWater G ad S2 (nI n) (vp_in_nI (by omega) (by decide))) kM_112 ⟨Nat.le_of_ble_eq_true rfl, Nat.le_of_ble_eq_true rfl⟩ rfl rfl (kk := 4) (ii := 0) rfl rfl rfl hl.1 rfl (Nat.le_of_ble_eq_true rfl) dX4_ends_19 ⟨Nat.zero_le _, Nat.zero_le _⟩ (fun H locs hI => ?_)
        refine xb_eq (tgt := 33) hx hb dX4_ends_22 (by decide) (fun c11 => ?_) (fun c11 => ?_)
        · refine lv_aload_n hx hb dX4_ends_33 rfl (lv_at hl 1 rfl) ?_
          refine gM_106 hx hb hts hown hK hI dX4_ends_34 ?_
          refine lv_if_ge (tgt := 45) hx hb dX4_ends_37 (by decide) (fun c12 => ?_) (fun c12 => ?_)
          · exact hJ6 S2 _ _ (by exact ((if_neg c8).trans ((if_neg c11).trans (if_pos c12))).symm) hI hM2
          · refine lv_aload_n hx hb dX4_ends_40 rfl (lv_at hl 1 rfl) ?_
            refine lv_iload_n hx hb dX4_ends_41 rfl (lv_at hl 0 rfl) ?_
            obtain ⟨S13, eS13⟩ : ∃ z : MS, z = M_thaws S2 (nI n) := ⟨_, rfl⟩
            refine cV0 (rest := []) hx hb hml hts hown hK hE hI (cM_thaws G ad S2 (nI n) (vp_in_nI (by omega) (by decide))) kM_149 ⟨Nat.le_of_ble_eq_true rfl, Nat.le_of_ble_eq_true rfl⟩ rfl rfl (kk := 4) (ii := 0) rfl rfl rfl hl.1 rfl (Nat.le_of_ble_eq_true rfl) dX4_ends_42 ⟨Nat.zero_le _, Nat.zero_le _⟩ (fun H locs hI => ?_)
            rw [← eS13] at hI
            exact hJ6 S13 _ _ (by subst eS13; exact ((if_neg c8).trans ((if_neg c11).trans (if_neg c12))).symm) hI (eS13 ▸ MI_thaws hM2 (by omega) (i32_nle c12))
        · refine lv_aload_n hx hb dX4_ends_25 rfl (lv_at hl 1 rfl) ?_
          refine lv_iload_n hx hb dX4_ends_26 rfl (lv_at hl 0 rfl) ?_
          obtain ⟨S14, eS14⟩ : ∃ z : MS, z = M_freezes S2 (nI n) := ⟨_, rfl⟩
          refine cV0 (rest := []) hx hb hml hts hown hK hE hI (cM_freezes G ad S2 (nI n) (vp_in_nI (by omega) (by decide)) (MI_den hM2 (by omega) (i32_nle c8))) kM_146 ⟨Nat.le_of_ble_eq_true rfl, Nat.le_of_ble_eq_true rfl⟩ rfl rfl (kk := 4) (ii := 0) rfl rfl rfl hl.1 rfl (Nat.le_of_ble_eq_true rfl) dX4_ends_27 ⟨Nat.zero_le _, Nat.zero_le _⟩ (fun H locs hI => ?_)
          rw [← eS14] at hI
          refine lv_goto (tgt := 45) hx hb dX4_ends_30 (by decide) ?_
          exact hJ6 S14 _ _ (by subst eS14; exact ((if_neg c8).trans (if_pos c11)).symm) hI (eS14 ▸ MI_freezes hM2 (by omega) (i32_nle c8))
  exact hL3 np 0 (by omega) 0 S H locs ls nI_0.symm rfl hI (lv_sub hl [0, 1] rfl)
