theorem kM_94 : CkS RX4 94 yX4_isIn cX4_isIn 3 (some .boolean) 3 := ⟨q860, q858, q859, q5, by decide +kernel⟩
theorem kM_101 : CkV RX4 101 yX4_fails cX4_fails 2 (some .boolean) 1 := ⟨q864, q861, q863, qp18, q5, by decide +kernel⟩
theorem kM_109 : CkV RX4 109 yX4_isPiece cX4_isPiece 2 (some .boolean) 1 := ⟨q881, q878, q880, qp19, q5, by decide +kernel⟩
theorem kM_112 : CkV RX4 112 yX4_isWater cX4_isWater 2 (some .boolean) 1 := ⟨q889, q886, q888, qp20, q5, by decide +kernel⟩
theorem kM_117 : CkV RX4 117 yX4_thick cX4_thick 2 (some .double) 1 := ⟨q897, q894, q896, qp21, q5, by decide +kernel⟩
theorem kM_123 : CkV RX4 123 yX4_isVehicle cX4_isVehicle 2 (some .boolean) 1 := ⟨q924, q921, q923, qp22, q5, by decide +kernel⟩
theorem kM_126 : CkS RX4 126 yX4_isGoods cX4_isGoods 1 (some .boolean) 1 := ⟨q927, q925, q926, q5, by decide +kernel⟩
theorem kM_129 : CkV RX4 129 yX4_weight cX4_weight 2 (some .int) 1 := ⟨q931, q928, q930, qp23, q5, by decide +kernel⟩
theorem kM_137 : CkV RX4 137 yX4_isThere cX4_isThere 2 (some .boolean) 1 := ⟨q943, q940, q942, qp24, q5, by decide +kernel⟩
theorem kM_140 : CkV RX4 140 yX4_arrives cX4_arrives 2 none 1 := ⟨q947, q944, q946, qp25, q5, by decide +kernel⟩
theorem kM_133 : CkV RX4 133 yX4_unloads cX4_unloads 3 none 2 := ⟨q951, q948, q950, qp26, q5, by decide +kernel⟩
theorem kM_197 : CkV RX4 197 yX4_passes cX4_passes 2 none 0 := ⟨q966, q963, q965, qp27, q5, by decide +kernel⟩
theorem kM_184 : CkV RX4 184 yX4_ends cX4_ends 2 none 0 := ⟨q970, q967, q969, qp28, q5, by decide +kernel⟩
theorem kM_146 : CkV RX4 146 yX4_freezes cX4_freezes 4 none 1 := ⟨q974, q971, q973, qp29, q5, by decide +kernel⟩
theorem kM_149 : CkV RX4 149 yX4_thaws cX4_thaws 8 none 1 := ⟨q978, q975, q977, qp30, q5, by decide +kernel⟩
theorem kM_187 : CkV RX4 187 yX4_leaves cX4_leaves 4 none 1 := ⟨q982, q979, q981, qp31, q5, by decide +kernel⟩
theorem kM_190 : CkV RX4 190 yX4_against cX4_against 3 (some .int) 1 := ⟨q986, q983, q985, qp32, q5, by decide +kernel⟩
theorem kM_164 : CkV RX4 164 yX4_nextPiece cX4_nextPiece 2 (some .int) 1 := ⟨q990, q987, q989, qp33, q5, by decide +kernel⟩
theorem kM_170 : CkV RX4 170 yX4_isMet cX4_isMet 5 (some .boolean) 2 := ⟨q994, q991, q993, qp34, q5, by decide +kernel⟩
theorem kM_174 : CkV RX4 174 yX4_weights cX4_weights 4 (some .int) 1 := ⟨q998, q995, q997, qp35, q5, by decide +kernel⟩
theorem kM_177 : CkV RX4 177 yX4_bearsBy cX4_bearsBy 4 (some .int) 2 := ⟨q1002, q999, q1001, qp36, q5, by decide +kernel⟩
theorem kM_193 : CkV RX4 193 yX4_comes cX4_comes 4 none 1 := ⟨q1008, q1005, q1007, qp37, q5, by decide +kernel⟩
theorem kM_181 : CkV RX4 181 yX4_minutesOn cX4_minutesOn 4 (some .int) 2 := ⟨q1012, q1009, q1011, qp38, q5, by decide +kernel⟩
theorem kM_160 : CkV RX4 160 yX4_speedOn cX4_speedOn 10 (some .int) 2 := ⟨q1016, q1013, q1015, qp39, q5, by decide +kernel⟩
theorem kM_200 : CkV RX4 200 yX4_many cX4_many 4 (some .int) 1 := ⟨q1030, q1027, q1029, qp40, q5, by decide +kernel⟩
theorem kM_203 : CkV RX4 203 yX4_minutes cX4_minutes 3 (some .int) 2 := ⟨q1054, q1059, q1052, q1053, q5, by decide +kernel⟩
theorem kM_206 : CkV RX4 206 yX4_missing cX4_missing 2 (some .int) 1 := ⟨q1067, q1064, q1066, qp41, q5, by decide +kernel⟩
theorem kM_209 : CkV RX4 209 yX4_carried cX4_carried 5 (some .int) 2 := ⟨q1071, q1068, q1070, qp42, q5, by decide +kernel⟩

def M_thrown (S : MS) : Int32 :=
  S.1 29 0
set_option maxHeartbeats 4000000 in
set_option maxRecDepth 100000 in
theorem cM_thrown (G : GX) (ad : Nat → Nat) (S : MS) : FC G yX4_thrown cX4_thrown 1 (some .int) ({ frames := 0, cells := 0, slots := 0, locals := 0 }) [.ref (ad 0)] (mW G.2.2.2 ad S) (pv (.int (M_thrown S)) (mW G.2.2.2 ad S)) := by
  refine FC.go (lv := [(0, .ref (ad 0))]) (by decide) (Nat.le_of_ble_eq_true rfl) rfl (fun p e s m args below meth c A H locs ls Q hx hb hr hts hown hml hlocks hnm hK hE hI hA hl hQ => ?_)
  have hown : s.vm.findClass RX4 = some m.cls := hown
  refine lv_aload_n hx hb dX4_thrown_0 rfl (lv_at hl 0 rfl) ?_
  refine gM_88 hx hb hts hown hK hI dX4_thrown_1 ?_
  have HE : M_thrown S = S.1 29 0 := by exact rfl
  exact rt_i hx hb hr hlocks hI hA hQ ⟨by rw [HE], rfl⟩ (Nat.zero_le _) (Nat.zero_le _) dX4_thrown_4

def M_fails (S : MS) (uk : Int32) : Int32 × MS :=
  let S1 := mset S 29 0 uk
  (bI (¬ (uk ≤ 0)), S1)
set_option maxHeartbeats 4000000 in
set_option maxRecDepth 100000 in
theorem cM_fails (G : GX) (ad : Nat → Nat) (S : MS) (uk : Int32) : FC G yX4_fails cX4_fails 2 (some .boolean) ({ frames := 0, cells := 0, slots := 0, locals := 0 }) [.ref (ad 0), .int uk] (mW G.2.2.2 ad S) (pv (.int (M_fails S uk).1) (mW G.2.2.2 ad (M_fails S uk).2)) := by
  refine FC.go (lv := [(0, .ref (ad 0)), (1, .int uk)]) (by decide) (Nat.le_of_ble_eq_true rfl) rfl (fun p e s m args below meth c A H locs ls Q hx hb hr hts hown hml hlocks hnm hK hE hI hA hl hQ => ?_)
  have hown : s.vm.findClass RX4 = some m.cls := hown
  refine lv_aload_n hx hb dX4_fails_0 rfl (lv_at hl 0 rfl) ?_
  refine lv_iload_n hx hb dX4_fails_1 rfl (lv_at hl 1 rfl) ?_
  obtain ⟨S1, eS1⟩ : ∃ z : MS, z = mset S 29 0 uk := ⟨_, rfl⟩
  refine pM_88 hx hb hts hown hK hI eS1 dX4_fails_2 (fun H locs hI => ?_)
  refine lv_iload_n hx hb dX4_fails_5 rfl (lv_at hl 1 rfl) ?_
  have hJ2 : W p G.1 e ({ frames := 0, cells := 0, slots := 0, locals := 0 }) s m args below meth c H locs 0 0 Q (F0 m 14 ls [.int (bI (¬ (uk ≤ 0)))]) := by
    have HE : M_fails S uk = (bI (¬ (uk ≤ 0)), S1) := by subst eS1; exact rfl
    exact rt_z hx hb hr hlocks bI_narrow hI hA hQ ⟨by rw [HE], by rw [HE]⟩ (Nat.zero_le _) (Nat.zero_le _) dX4_fails_14
  refine lv_if_le (tgt := 13) hx hb dX4_fails_6 (by decide) (fun c3 => ?_) (fun c3 => ?_)
  · refine lv_iconst (v := 0) hx hb dX4_fails_13 (by decide) ?_
    have eb4 : (0 : Int32) = bI (¬ (uk ≤ 0)) := (bI_f (fun k => k c3)).symm
    rw [eb4]
    exact hJ2
  · refine lv_iconst (v := 1) hx hb dX4_fails_9 (by decide) ?_
    refine lv_goto (tgt := 14) hx hb dX4_fails_10 (by decide) ?_
    have eb5 : (1 : Int32) = bI (¬ (uk ≤ 0)) := (bI_t c3).symm
    rw [eb5]
    exact hJ2

theorem cM_fails0 (G : GX) (ad : Nat → Nat) (S : MS) : FC G yX4_fails cX4_fails 2 (some .boolean) ({ frames := 0, cells := 0, slots := 0, locals := 0 }) [.ref (ad 0), .int 0] (mW G.2.2.2 ad S) (pv (.int 0) (mW G.2.2.2 ad (mset S 29 0 0))) := by
  have h := cM_fails G ad S 0
  have e : (M_fails S 0).1 = 0 := by show bI (¬ ((0 : Int32) ≤ 0)) = _; exact bI_f (by decide)
  rw [e] at h
  exact h
theorem cM_fails1 (G : GX) (ad : Nat → Nat) (S : MS) : FC G yX4_fails cX4_fails 2 (some .boolean) ({ frames := 0, cells := 0, slots := 0, locals := 0 }) [.ref (ad 0), .int 1] (mW G.2.2.2 ad S) (pv (.int 1) (mW G.2.2.2 ad (mset S 29 0 1))) := by
  have h := cM_fails G ad S 1
  have e : (M_fails S 1).1 = 1 := by show bI (¬ ((1 : Int32) ≤ 0)) = _; exact bI_t (by decide)
  rw [e] at h
  exact h
theorem cM_fails2 (G : GX) (ad : Nat → Nat) (S : MS) : FC G yX4_fails cX4_fails 2 (some .boolean) ({ frames := 0, cells := 0, slots := 0, locals := 0 }) [.ref (ad 0), .int 2] (mW G.2.2.2 ad S) (pv (.int 1) (mW G.2.2.2 ad (mset S 29 0 2))) := by
  have h := cM_fails G ad S 2
  have e : (M_fails S 2).1 = 1 := by show bI (¬ ((2 : Int32) ≤ 0)) = _; exact bI_t (by decide)
  rw [e] at h
  exact h
theorem cM_fails3 (G : GX) (ad : Nat → Nat) (S : MS) : FC G yX4_fails cX4_fails 2 (some .boolean) ({ frames := 0, cells := 0, slots := 0, locals := 0 }) [.ref (ad 0), .int 3] (mW G.2.2.2 ad S) (pv (.int 1) (mW G.2.2.2 ad (mset S 29 0 3))) := by
  have h := cM_fails G ad S 3
  have e : (M_fails S 3).1 = 1 := by show bI (¬ ((3 : Int32) ≤ 0)) = _; exact bI_t (by decide)
  rw [e] at h
  exact h
abbrev M_isIn (S : MS) (uv : Int32) (ua : Int32) (ub : Int32) : Prop :=
  (¬ (uv < ua)) ∧ (¬ (ub < uv))
set_option maxHeartbeats 4000000 in
set_option maxRecDepth 100000 in
theorem cM_isIn (G : GX) (ad : Nat → Nat) (S : MS) (uv : Int32) (ua : Int32) (ub : Int32) : FC G yX4_isIn cX4_isIn 3 (some .boolean) ({ frames := 0, cells := 0, slots := 0, locals := 0 }) [.int uv, .int ua, .int ub] (mW G.2.2.2 ad S) (pv (.int (bI (M_isIn S uv ua ub))) (mW G.2.2.2 ad S)) := by
  refine FC.go (lv := [(0, .int uv), (1, .int ua), (2, .int ub)]) (by decide) (Nat.le_of_ble_eq_true rfl) rfl (fun p e s m args below meth c A H locs ls Q hx hb hr hts hown hml hlocks hnm hK hE hI hA hl hQ => ?_)
  have hown : s.vm.findClass RX4 = some m.cls := hown
  refine lv_iload_n hx hb dX4_isIn_0 rfl (lv_at hl 0 rfl) ?_
  refine lv_iload_n hx hb dX4_isIn_1 rfl (lv_at hl 1 rfl) ?_
  have hJ1 : W p G.1 e ({ frames := 0, cells := 0, slots := 0, locals := 0 }) s m args below meth c H locs 0 0 Q (F0 m 15 ls [.int (bI ((¬ (uv < ua)) ∧ (¬ (ub < uv))))]) := by
    exact rt_z hx hb hr hlocks bI_narrow hI hA hQ ⟨rfl, rfl⟩ (Nat.zero_le _) (Nat.zero_le _) dX4_isIn_15
  refine lv_icmp_lt (tgt := 14) hx hb dX4_isIn_2 (by decide) (fun c2 => ?_) (fun c2 => ?_)
  · refine lv_iconst (v := 0) hx hb dX4_isIn_14 (by decide) ?_
    have eb3 : (0 : Int32) = bI ((¬ (uv < ua)) ∧ (¬ (ub < uv))) := (bI_f (fun k => k.1 c2)).symm
    rw [eb3]
    exact hJ1
  · refine lv_iload_n hx hb dX4_isIn_5 rfl (lv_at hl 0 rfl) ?_
    refine lv_iload_n hx hb dX4_isIn_6 rfl (lv_at hl 2 rfl) ?_
    refine lv_icmp_gt (tgt := 14) hx hb dX4_isIn_7 (by decide) (fun c4 => ?_) (fun c4 => ?_)
    · refine lv_iconst (v := 0) hx hb dX4_isIn_14 (by decide) ?_
      have eb5 : (0 : Int32) = bI ((¬ (uv < ua)) ∧ (¬ (ub < uv))) := (bI_f (fun k => (fun k => k c4) k.2)).symm
      rw [eb5]
      exact hJ1
    · refine lv_iconst (v := 1) hx hb dX4_isIn_10 (by decide) ?_
      refine lv_goto (tgt := 15) hx hb dX4_isIn_11 (by decide) ?_
      have eb6 : (1 : Int32) = bI ((¬ (uv < ua)) ∧ (¬ (ub < uv))) := (bI_t ⟨c2, c4⟩).symm
      rw [eb6]
      exact hJ1

abbrev M_isPiece (S : MS) (up : Int32) : Prop :=
  M_isIn S up 0 ((S.1 3 0) - 1)
set_option maxHeartbeats 4000000 in
set_option maxRecDepth 100000 in
theorem cM_isPiece (G : GX) (ad : Nat → Nat) (S : MS) (up : Int32) : FC G yX4_isPiece cX4_isPiece 2 (some .boolean) ({ frames := 1, cells := 0, slots := 0, locals := 22 }) [.ref (ad 0), .int up] (mW G.2.2.2 ad S) (pv (.int (bI (M_isPiece S up))) (mW G.2.2.2 ad S)) := by
  refine FC.go (lv := [(0, .ref (ad 0)), (1, .int up)]) (by decide) (Nat.le_of_ble_eq_true rfl) rfl (fun p e s m args below meth c A H locs ls Q hx hb hr hts hown hml hlocks hnm hK hE hI hA hl hQ => ?_)
  have hown : s.vm.findClass RX4 = some m.cls := hown
  refine lv_iload_n hx hb dX4_isPiece_0 rfl (lv_at hl 1 rfl) ?_
  refine lv_iconst (v := 0) hx hb dX4_isPiece_1 (by decide) ?_
  refine lv_aload_n hx hb dX4_isPiece_2 rfl (lv_at hl 0 rfl) ?_
  refine gM_91 hx hb hts hown hK hI dX4_isPiece_3 ?_
  refine lv_iconst (v := 1) hx hb dX4_isPiece_6 (by decide) ?_
  refine lv_isub hx hb dX4_isPiece_7 ?_
  refine cSv (rest := []) hx hb hml hts hown hK hE hI (cM_isIn G ad S up 0 ((S.1 3 0) - 1)) kM_94 ⟨Nat.le_of_ble_eq_true rfl, Nat.le_of_ble_eq_true rfl⟩ rfl rfl hl.1 rfl (Nat.le_of_ble_eq_true rfl) dX4_isPiece_8 ⟨Nat.zero_le _, Nat.zero_le _⟩ (fun H locs hI => ?_)
  exact rt_z hx hb hr hlocks bI_narrow hI hA hQ ⟨rfl, rfl⟩ (Nat.zero_le _) (Nat.zero_le _) dX4_isPiece_11

abbrev M_isVehicle (S : MS) (uv : Int32) : Prop :=
  M_isIn S uv 0 ((S.1 16 0) - 1)
set_option maxHeartbeats 4000000 in
set_option maxRecDepth 100000 in
theorem cM_isVehicle (G : GX) (ad : Nat → Nat) (S : MS) (uv : Int32) : FC G yX4_isVehicle cX4_isVehicle 2 (some .boolean) ({ frames := 1, cells := 0, slots := 0, locals := 22 }) [.ref (ad 0), .int uv] (mW G.2.2.2 ad S) (pv (.int (bI (M_isVehicle S uv))) (mW G.2.2.2 ad S)) := by
  refine FC.go (lv := [(0, .ref (ad 0)), (1, .int uv)]) (by decide) (Nat.le_of_ble_eq_true rfl) rfl (fun p e s m args below meth c A H locs ls Q hx hb hr hts hown hml hlocks hnm hK hE hI hA hl hQ => ?_)
  have hown : s.vm.findClass RX4 = some m.cls := hown
  refine lv_iload_n hx hb dX4_isVehicle_0 rfl (lv_at hl 1 rfl) ?_
  refine lv_iconst (v := 0) hx hb dX4_isVehicle_1 (by decide) ?_
  refine lv_aload_n hx hb dX4_isVehicle_2 rfl (lv_at hl 0 rfl) ?_
  refine gM_98 hx hb hts hown hK hI dX4_isVehicle_3 ?_
  refine lv_iconst (v := 1) hx hb dX4_isVehicle_6 (by decide) ?_
  refine lv_isub hx hb dX4_isVehicle_7 ?_
  refine cSv (rest := []) hx hb hml hts hown hK hE hI (cM_isIn G ad S uv 0 ((S.1 16 0) - 1)) kM_94 ⟨Nat.le_of_ble_eq_true rfl, Nat.le_of_ble_eq_true rfl⟩ rfl rfl hl.1 rfl (Nat.le_of_ble_eq_true rfl) dX4_isVehicle_8 ⟨Nat.zero_le _, Nat.zero_le _⟩ (fun H locs hI => ?_)
  exact rt_z hx hb hr hlocks bI_narrow hI hA hQ ⟨rfl, rfl⟩ (Nat.zero_le _) (Nat.zero_le _) dX4_isVehicle_11

abbrev M_isGoods (S : MS) (ug : Int32) : Prop :=
  M_isIn S ug 0 2
set_option maxHeartbeats 4000000 in
set_option maxRecDepth 100000 in
theorem cM_isGoods (G : GX) (ad : Nat → Nat) (S : MS) (ug : Int32) : FC G yX4_isGoods cX4_isGoods 1 (some .boolean) ({ frames := 1, cells := 0, slots := 0, locals := 22 }) [.int ug] (mW G.2.2.2 ad S) (pv (.int (bI (M_isGoods S ug))) (mW G.2.2.2 ad S)) := by
  refine FC.go (lv := [(0, .int ug)]) (by decide) (Nat.le_of_ble_eq_true rfl) rfl (fun p e s m args below meth c A H locs ls Q hx hb hr hts hown hml hlocks hnm hK hE hI hA hl hQ => ?_)
  have hown : s.vm.findClass RX4 = some m.cls := hown
  refine lv_iload_n hx hb dX4_isGoods_0 rfl (lv_at hl 0 rfl) ?_
  refine lv_iconst (v := 0) hx hb dX4_isGoods_1 (by decide) ?_
  refine lv_iconst (v := 2) hx hb dX4_isGoods_2 (by decide) ?_
  refine cSv (rest := []) hx hb hml hts hown hK hE hI (cM_isIn G ad S ug 0 2) kM_94 ⟨Nat.le_of_ble_eq_true rfl, Nat.le_of_ble_eq_true rfl⟩ rfl rfl hl.1 rfl (Nat.le_of_ble_eq_true rfl) dX4_isGoods_3 ⟨Nat.zero_le _, Nat.zero_le _⟩ (fun H locs hI => ?_)
  exact rt_z hx hb hr hlocks bI_narrow hI hA hQ ⟨rfl, rfl⟩ (Nat.zero_le _) (Nat.zero_le _) dX4_isGoods_6

def MNn (S : MS) (np nv : Nat) : Prop := S.1 3 0 = nI np ∧ np ≤ 10 ∧ S.1 16 0 = nI nv ∧ nv ≤ 16
theorem MNn_set {S S1 : MS} {np nv k j : Nat} {v : Int32} (h : MNn S np nv) (h3 : k ≠ 3) (h16 : k ≠ 16) (e : S1 = mset S k j v) : MNn S1 np nv := by
  subst e
  unfold MNn
  rw [mset_k (fun z => h3 z.symm), mset_k (fun z => h16 z.symm)]
  exact h
theorem MNn_kn {S S1 : MS} {np nv j : Nat} {v : NN} (h : MNn S np nv) (e : S1 = mkset S j v) : MNn S1 np nv := by
  subst e
  exact h
theorem cnt_in {x : Int32} {n N : Nat} (hn : n ≤ N) (hN : N < 1000) (h : (¬ x < 0) ∧ ¬ nI n - 1 < x) : vp_in x N := by
  obtain ⟨h0, h1⟩ := h
  rw [vp_in_iff]
  rw [Int32.lt_iff_toInt_lt, Int32.toInt_zero] at h0
  cases n with
  | zero =>
    rw [Int32.lt_iff_toInt_lt] at h1
    have e : (nI 0 - 1).toInt = -1 := by decide
    omega
  | succ k =>
    rw [nI_pred, Int32.lt_iff_toInt_lt, nI_toInt (by omega)] at h1
    omega
theorem isPiece_in {S : MS} {np nv : Nat} {p : Int32} (h : MNn S np nv) (hp : M_isPiece S p) : vp_in p 10 := cnt_in h.2.1 (by decide) (by rw [← h.1]; exact hp)
theorem isVehicle_in {S : MS} {np nv : Nat} {p : Int32} (h : MNn S np nv) (hp : M_isVehicle S p) : vp_in p 16 := cnt_in h.2.2.2 (by decide) (by rw [← h.2.2.1]; exact hp)
theorem isGoods_in {S : MS} {g : Int32} (h : M_isGoods S g) : vp_in g 3 := cnt_in (n := 3) (Nat.le_refl _) (by decide) h
def GI (S : MS) : Prop := ∀ j : Nat, ¬ (S.1 24 j ≤ 0) → vp_in (S.1 25 j) 3
theorem GI_set {S S1 : MS} {k j : Nat} {v : Int32} (h : GI S) (h3 : k ≠ 24) (h16 : k ≠ 25) (e : S1 = mset S k j v) : GI S1 := by
  subst e
  intro i
  rw [mset_k (fun z => h3 z.symm), mset_k (fun z => h16 z.symm)]
  exact h i
theorem fz_den {S S1 S2 : MS} {j : Nat} {x : Int32} (e1 : S1 = mset S 9 j (S.1 9 j - x)) (e2 : S2 = mset S1 8 j (S1.1 8 j + x)) (h : ¬ (((S.1 7 j + (S.1 8 j + x)) + 4 * S.1 10 j) + 50 = 0)) : ¬ (((S2.1 7 j + S2.1 8 j) + 4 * S2.1 10 j) + 50 = 0) := by
  subst e1
  subst e2
  rw [mset_s, mset_k (k' := 7) (by decide), mset_k (k' := 7) (by decide), mset_k (k' := 10) (by decide), mset_k (k' := 10) (by decide), mset_k (k' := 8) (by decide)]
  exact h
theorem nI_two (n : Nat) : 2 * nI n = nI (2 * n) := by
  rw [show (2 : Int32) = nI 2 from rfl]; exact (Int32.ofNat_mul 2 n).symm
theorem came_in {p x : Int32} {c : Prop} [Decidable c] (hp : vp_in p 10) (h : x = if c then 0 else 1) : vp_in (2 * p + x) 20 := by
  obtain ⟨j, hj, rfl⟩ := vp_in_of hp (by decide)
  rw [nI_two, h]
  split
  · rw [show (0 : Int32) = nI 0 from rfl, nI_add]; exact vp_in_nI (by omega) (by decide)
  · rw [nI_1]; exact vp_in_nI (by omega) (by decide)
theorem np_lt {S : MS} {np nv : Nat} (h : MNn S np nv) (hn : ¬ S.1 3 0 = 10) : np < 10 := by
  rcases Nat.lt_or_ge np 10 with k | k
  · exact k
  · exact absurd (by rw [h.1, show np = 10 from Nat.le_antisymm h.2.1 k]; rfl) hn
theorem nv_lt {S : MS} {np nv : Nat} (h : MNn S np nv) (hn : ¬ S.1 16 0 = 16) : nv < 16 := by
  rcases Nat.lt_or_ge nv 16 with k | k
  · exact k
  · exact absurd (by rw [h.2.2.1, show nv = 16 from Nat.le_antisymm h.2.2.2 k]; rfl) hn
theorem pc_in {S : MS} {np nv : Nat} (h : MNn S np nv) (hl : np < 10) : vp_in (S.1 3 0) 10 := by
  rw [h.1]; exact vp_in_nI hl (by decide)
theorem pc_in2 {S : MS} {np nv : Nat} (h : MNn S np nv) (hl : np < 10) : vp_in (2 * S.1 3 0) 20 := by
  rw [h.1, nI_two]; exact vp_in_nI (by omega) (by decide)
theorem pc_in3 {S : MS} {np nv : Nat} (h : MNn S np nv) (hl : np < 10) : vp_in (2 * S.1 3 0 + 1) 20 := by
  rw [h.1, nI_two, nI_1]; exact vp_in_nI (by omega) (by decide)
theorem vc_in {S : MS} {np nv : Nat} (h : MNn S np nv) (hl : nv < 16) : vp_in (S.1 16 0) 16 := by
  rw [h.2.2.1]; exact vp_in_nI hl (by decide)
theorem sw_out7 {x : Int32} (h0 : ¬ x = 0) (h1 : ¬ x = 1) (h2 : ¬ x = 2) (h3 : ¬ x = 3) (h4 : ¬ x = 4) (h5 : ¬ x = 5) (h6 : ¬ x = 6) : x.toInt < 0 ∨ 6 < x.toInt := by
  rw [← Int32.toInt_inj] at h0 h1 h2 h3 h4 h5 h6
  have e0 : (0 : Int32).toInt = 0 := by decide
  have e1 : (1 : Int32).toInt = 1 := by decide
  have e2 : (2 : Int32).toInt = 2 := by decide
  have e3 : (3 : Int32).toInt = 3 := by decide
  have e4 : (4 : Int32).toInt = 4 := by decide
  have e5 : (5 : Int32).toInt = 5 := by decide
  have e6 : (6 : Int32).toInt = 6 := by decide
  omega
theorem sw_out6 {x : Int32} (h0 : ¬ x = 0) (h1 : ¬ x = 1) (h2 : ¬ x = 2) (h3 : ¬ x = 3) (h4 : ¬ x = 4) (h5 : ¬ x = 5) : x.toInt < 0 ∨ 5 < x.toInt := by
  rw [← Int32.toInt_inj] at h0 h1 h2 h3 h4 h5
  have e0 : (0 : Int32).toInt = 0 := by decide
  have e1 : (1 : Int32).toInt = 1 := by decide
  have e2 : (2 : Int32).toInt = 2 := by decide
  have e3 : (3 : Int32).toInt = 3 := by decide
  have e4 : (4 : Int32).toInt = 4 := by decide
  have e5 : (5 : Int32).toInt = 5 := by decide
  omega
abbrev M_isWater (S : MS) (up : Int32) : Prop :=
  ¬ ((S.1 4 up.toNatClampNeg) = 2)
set_option maxHeartbeats 4000000 in
set_option maxRecDepth 100000 in
theorem cM_isWater (G : GX) (ad : Nat → Nat) (S : MS) (up : Int32) (hp : vp_in up 10) : FC G yX4_isWater cX4_isWater 2 (some .boolean) ({ frames := 0, cells := 0, slots := 0, locals := 0 }) [.ref (ad 0), .int up] (mW G.2.2.2 ad S) (pv (.int (bI (M_isWater S up))) (mW G.2.2.2 ad S)) := by
  refine FC.go (lv := [(0, .ref (ad 0)), (1, .int up)]) (by decide) (Nat.le_of_ble_eq_true rfl) rfl (fun p e s m args below meth c A H locs ls Q hx hb hr hts hown hml hlocks hnm hK hE hI hA hl hQ => ?_)
  have hown : s.vm.findClass RX4 = some m.cls := hown
  refine lv_aload_n hx hb dX4_isWater_0 rfl (lv_at hl 0 rfl) ?_
  refine gM_13 hx hb hts hown hK hI dX4_isWater_1 ?_
  refine lv_iload_n hx hb dX4_isWater_4 rfl (lv_at hl 1 rfl) ?_
  refine lM_4 hx hb hK hI hp dX4_isWater_5 ?_
  refine lv_iconst (v := 2) hx hb dX4_isWater_6 (by decide) ?_
  have hJ1 : W p G.1 e ({ frames := 0, cells := 0, slots := 0, locals := 0 }) s m args below meth c H locs 0 0 Q (F0 m 15 ls [.int (bI (¬ ((S.1 4 up.toNatClampNeg) = 2)))]) := by
    exact rt_z hx hb hr hlocks bI_narrow hI hA hQ ⟨rfl, rfl⟩ (Nat.zero_le _) (Nat.zero_le _) dX4_isWater_15
  refine lv_icmp_eq (tgt := 14) hx hb dX4_isWater_7 (by decide) (fun c2 => ?_) (fun c2 => ?_)
  · refine lv_iconst (v := 0) hx hb dX4_isWater_14 (by decide) ?_
    have eb3 : (0 : Int32) = bI (¬ ((S.1 4 up.toNatClampNeg) = 2)) := (bI_f (fun k => k c2)).symm
    rw [eb3]
    exact hJ1
  · refine lv_iconst (v := 1) hx hb dX4_isWater_10 (by decide) ?_
    refine lv_goto (tgt := 15) hx hb dX4_isWater_11 (by decide) ?_
    have eb4 : (1 : Int32) = bI (¬ ((S.1 4 up.toNatClampNeg) = 2)) := (bI_t c2).symm
    rw [eb4]
    exact hJ1

def M_weather (S : MS) (uk : Int32) : Int32 × MS :=
  if M_isIn S uk (-20) 60 then
    let S3 := mset S 29 0 0
    let S4 := mset S3 1 0 uk
    (S3.1 1 0, S4)
  else
    let S2 := mset S 29 0 1
    (0, S2)
set_option maxHeartbeats 4000000 in
set_option maxRecDepth 100000 in
theorem cM_weather (G : GX) (ad : Nat → Nat) (S : MS) (uk : Int32) : FC G yX4_weather cX4_weather 3 (some .int) ({ frames := 1, cells := 0, slots := 0, locals := 22 }) [.ref (ad 0), .int uk] (mW G.2.2.2 ad S) (pv (.int (M_weather S uk).1) (mW G.2.2.2 ad (M_weather S uk).2)) := by
  refine FC.go (lv := [(0, .ref (ad 0)), (1, .int uk)]) (by decide) (Nat.le_of_ble_eq_true rfl) rfl (fun p e s m args below meth c A H locs ls Q hx hb hr hts hown hml hlocks hnm hK hE hI hA hl hQ => ?_)
  have hown : s.vm.findClass RX4 = some m.cls := hown
  refine lv_aload_n hx hb dX4_weather_0 rfl (lv_at hl 0 rfl) ?_
  refine lv_iload_n hx hb dX4_weather_1 rfl (lv_at hl 1 rfl) ?_
  refine lv_bipush (v := -20) hx hb dX4_weather_2 (by decide) ?_
  refine lv_bipush (v := 60) hx hb dX4_weather_4 (by decide) ?_
  refine cSv (rest := [.ref (ad 0)]) hx hb hml hts hown hK hE hI (cM_isIn G ad S uk (-20) 60) kM_94 ⟨Nat.le_of_ble_eq_true rfl, Nat.le_of_ble_eq_true rfl⟩ rfl rfl hl.1 rfl (Nat.le_of_ble_eq_true rfl) dX4_weather_6 ⟨Nat.zero_le _, Nat.zero_le _⟩ (fun H locs hI => ?_)
  refine xb_eq (tgt := 16) hx hb dX4_weather_9 (by decide) (fun c1 => ?_) (fun c1 => ?_)
  · refine lv_iconst (v := 1) hx hb dX4_weather_16 (by decide) ?_
    obtain ⟨S2, eS2⟩ : ∃ z : MS, z = mset S 29 0 1 := ⟨_, rfl⟩
    refine cVv (rest := []) hx hb hml hts hown hK hE hI (cM_fails1 G ad S) kM_101 ⟨Nat.le_of_ble_eq_true rfl, Nat.le_of_ble_eq_true rfl⟩ rfl rfl (kk := 4) (ii := 0) rfl rfl rfl hl.1 rfl (Nat.le_of_ble_eq_true rfl) dX4_weather_17 ⟨Nat.zero_le _, Nat.zero_le _⟩ (fun H locs hI => ?_)
    rw [← eS2] at hI
    refine lv_if_eq (tgt := 25) hx hb dX4_weather_20 (by decide) (fun h => absurd h (by decide)) (fun _ => ?_)
    refine lv_iconst (v := 0) hx hb dX4_weather_23 (by decide) ?_
    have HE : M_weather S uk = (0, S2) := by subst eS2; exact (if_neg c1)
    exact rt_i hx hb hr hlocks hI hA hQ ⟨by rw [HE], by rw [HE]⟩ (Nat.zero_le _) (Nat.zero_le _) dX4_weather_24
  · refine lv_iconst (v := 0) hx hb dX4_weather_12 (by decide) ?_
    refine lv_goto (tgt := 17) hx hb dX4_weather_13 (by decide) ?_
    obtain ⟨S3, eS3⟩ : ∃ z : MS, z = mset S 29 0 0 := ⟨_, rfl⟩
    refine cVv (rest := []) hx hb hml hts hown hK hE hI (cM_fails0 G ad S) kM_101 ⟨Nat.le_of_ble_eq_true rfl, Nat.le_of_ble_eq_true rfl⟩ rfl rfl (kk := 4) (ii := 0) rfl rfl rfl hl.1 rfl (Nat.le_of_ble_eq_true rfl) dX4_weather_17 ⟨Nat.zero_le _, Nat.zero_le _⟩ (fun H locs hI => ?_)
    rw [← eS3] at hI
    refine lv_if_eq (tgt := 25) hx hb dX4_weather_20 (by decide) (fun _ => ?_) (fun h => absurd h (by decide))
    refine lv_aload_n hx hb dX4_weather_25 rfl (lv_at hl 0 rfl) ?_
    refine gM_106 hx hb hts hown hK hI dX4_weather_26 ?_
    refine lv_istore_n (lv' := [(2, .int (S3.1 1 0)), (0, .ref (ad 0)), (1, .int uk)]) hx hb dX4_weather_29 rfl hl (by decide) rfl (fun ls hl => ?_)
    refine lv_aload_n hx hb dX4_weather_30 rfl (lv_at hl 1 rfl) ?_
    refine lv_iload_n hx hb dX4_weather_31 rfl (lv_at hl 2 rfl) ?_
    obtain ⟨S4, eS4⟩ : ∃ z : MS, z = mset S3 1 0 uk := ⟨_, rfl⟩
    refine pM_106 hx hb hts hown hK hI eS4 dX4_weather_32 (fun H locs hI => ?_)
    refine lv_iload_n hx hb dX4_weather_35 rfl (lv_at hl 0 rfl) ?_
    have HE : M_weather S uk = (S3.1 1 0, S4) := by subst eS4 eS3; exact (if_pos c1)
    exact rt_i hx hb hr hlocks hI hA hQ ⟨by rw [HE], by rw [HE]⟩ (Nat.zero_le _) (Nat.zero_le _) dX4_weather_36

def M_gap (S : MS) (uk : Int32) : Int32 × MS :=
  if M_isIn S uk 0 120 then
    let S3 := mset S 29 0 0
    let S4 := mset S3 2 0 uk
    (S3.1 2 0, S4)
  else
    let S2 := mset S 29 0 1
    (0, S2)
set_option maxHeartbeats 4000000 in
set_option maxRecDepth 100000 in
theorem cM_gap (G : GX) (ad : Nat → Nat) (S : MS) (uk : Int32) : FC G yX4_gap cX4_gap 3 (some .int) ({ frames := 1, cells := 0, slots := 0, locals := 22 }) [.ref (ad 0), .int uk] (mW G.2.2.2 ad S) (pv (.int (M_gap S uk).1) (mW G.2.2.2 ad (M_gap S uk).2)) := by
  refine FC.go (lv := [(0, .ref (ad 0)), (1, .int uk)]) (by decide) (Nat.le_of_ble_eq_true rfl) rfl (fun p e s m args below meth c A H locs ls Q hx hb hr hts hown hml hlocks hnm hK hE hI hA hl hQ => ?_)
  have hown : s.vm.findClass RX4 = some m.cls := hown
  refine lv_aload_n hx hb dX4_gap_0 rfl (lv_at hl 0 rfl) ?_
  refine lv_iload_n hx hb dX4_gap_1 rfl (lv_at hl 1 rfl) ?_
  refine lv_iconst (v := 0) hx hb dX4_gap_2 (by decide) ?_
  refine lv_bipush (v := 120) hx hb dX4_gap_3 (by decide) ?_
  refine cSv (rest := [.ref (ad 0)]) hx hb hml hts hown hK hE hI (cM_isIn G ad S uk 0 120) kM_94 ⟨Nat.le_of_ble_eq_true rfl, Nat.le_of_ble_eq_true rfl⟩ rfl rfl hl.1 rfl (Nat.le_of_ble_eq_true rfl) dX4_gap_5 ⟨Nat.zero_le _, Nat.zero_le _⟩ (fun H locs hI => ?_)
  refine xb_eq (tgt := 15) hx hb dX4_gap_8 (by decide) (fun c1 => ?_) (fun c1 => ?_)
  · refine lv_iconst (v := 1) hx hb dX4_gap_15 (by decide) ?_
    obtain ⟨S2, eS2⟩ : ∃ z : MS, z = mset S 29 0 1 := ⟨_, rfl⟩
    refine cVv (rest := []) hx hb hml hts hown hK hE hI (cM_fails1 G ad S) kM_101 ⟨Nat.le_of_ble_eq_true rfl, Nat.le_of_ble_eq_true rfl⟩ rfl rfl (kk := 4) (ii := 0) rfl rfl rfl hl.1 rfl (Nat.le_of_ble_eq_true rfl) dX4_gap_16 ⟨Nat.zero_le _, Nat.zero_le _⟩ (fun H locs hI => ?_)
    rw [← eS2] at hI
    refine lv_if_eq (tgt := 24) hx hb dX4_gap_19 (by decide) (fun h => absurd h (by decide)) (fun _ => ?_)
    refine lv_iconst (v := 0) hx hb dX4_gap_22 (by decide) ?_
    have HE : M_gap S uk = (0, S2) := by subst eS2; exact (if_neg c1)
    exact rt_i hx hb hr hlocks hI hA hQ ⟨by rw [HE], by rw [HE]⟩ (Nat.zero_le _) (Nat.zero_le _) dX4_gap_23
  · refine lv_iconst (v := 0) hx hb dX4_gap_11 (by decide) ?_
    refine lv_goto (tgt := 16) hx hb dX4_gap_12 (by decide) ?_
    obtain ⟨S3, eS3⟩ : ∃ z : MS, z = mset S 29 0 0 := ⟨_, rfl⟩
    refine cVv (rest := []) hx hb hml hts hown hK hE hI (cM_fails0 G ad S) kM_101 ⟨Nat.le_of_ble_eq_true rfl, Nat.le_of_ble_eq_true rfl⟩ rfl rfl (kk := 4) (ii := 0) rfl rfl rfl hl.1 rfl (Nat.le_of_ble_eq_true rfl) dX4_gap_16 ⟨Nat.zero_le _, Nat.zero_le _⟩ (fun H locs hI => ?_)
    rw [← eS3] at hI
    refine lv_if_eq (tgt := 24) hx hb dX4_gap_19 (by decide) (fun _ => ?_) (fun h => absurd h (by decide))
    refine lv_aload_n hx hb dX4_gap_24 rfl (lv_at hl 0 rfl) ?_
    refine gM_7 hx hb hts hown hK hI dX4_gap_25 ?_
    refine lv_istore_n (lv' := [(2, .int (S3.1 2 0)), (0, .ref (ad 0)), (1, .int uk)]) hx hb dX4_gap_28 rfl hl (by decide) rfl (fun ls hl => ?_)
    refine lv_aload_n hx hb dX4_gap_29 rfl (lv_at hl 1 rfl) ?_
    refine lv_iload_n hx hb dX4_gap_30 rfl (lv_at hl 2 rfl) ?_
    obtain ⟨S4, eS4⟩ : ∃ z : MS, z = mset S3 2 0 uk := ⟨_, rfl⟩
    refine pM_7 hx hb hts hown hK hI eS4 dX4_gap_31 (fun H locs hI => ?_)
    refine lv_iload_n hx hb dX4_gap_34 rfl (lv_at hl 0 rfl) ?_
    have HE : M_gap S uk = (S3.1 2 0, S4) := by subst eS4 eS3; exact (if_pos c1)
    exact rt_i hx hb hr hlocks hI hA hQ ⟨by rw [HE], by rw [HE]⟩ (Nat.zero_le _) (Nat.zero_le _) dX4_gap_35

def M_plough (S : MS) (up : Int32) : Int32 × MS :=
  if M_isPiece S up then
    let S3 := mset S 29 0 0
    let S4 := mset S3 10 up.toNatClampNeg 0
    (S3.1 10 up.toNatClampNeg, S4)
  else
    let S2 := mset S 29 0 1
    (0, S2)
set_option maxHeartbeats 4000000 in
set_option maxRecDepth 100000 in
theorem cM_plough (G : GX) (ad : Nat → Nat) (S : MS) (up : Int32) {np nv : Nat} (hN : MNn S np nv) : FC G yX4_plough cX4_plough 3 (some .int) ({ frames := 2, cells := 0, slots := 0, locals := 43 }) [.ref (ad 0), .int up] (mW G.2.2.2 ad S) (pv (.int (M_plough S up).1) (mW G.2.2.2 ad (M_plough S up).2)) := by
  refine FC.go (lv := [(0, .ref (ad 0)), (1, .int up)]) (by decide) (Nat.le_of_ble_eq_true rfl) rfl (fun p e s m args below meth c A H locs ls Q hx hb hr hts hown hml hlocks hnm hK hE hI hA hl hQ => ?_)
  have hown : s.vm.findClass RX4 = some m.cls := hown
  refine lv_aload_n hx hb dX4_plough_0 rfl (lv_at hl 0 rfl) ?_
  refine lv_aload_n hx hb dX4_plough_1 rfl (lv_at hl 0 rfl) ?_
  refine lv_iload_n hx hb dX4_plough_2 rfl (lv_at hl 1 rfl) ?_
  refine cVv (rest := [.ref (ad 0)]) hx hb hml hts hown hK hE hI (cM_isPiece G ad S up) kM_109 ⟨Nat.le_of_ble_eq_true rfl, Nat.le_of_ble_eq_true rfl⟩ rfl rfl (kk := 4) (ii := 0) rfl rfl rfl hl.1 rfl (Nat.le_of_ble_eq_true rfl) dX4_plough_3 ⟨Nat.zero_le _, Nat.zero_le _⟩ (fun H locs hI => ?_)
  refine xb_eq (tgt := 13) hx hb dX4_plough_6 (by decide) (fun c1 => ?_) (fun c1 => ?_)
  · refine lv_iconst (v := 1) hx hb dX4_plough_13 (by decide) ?_
    obtain ⟨S2, eS2⟩ : ∃ z : MS, z = mset S 29 0 1 := ⟨_, rfl⟩
    refine cVv (rest := []) hx hb hml hts hown hK hE hI (cM_fails1 G ad S) kM_101 ⟨Nat.le_of_ble_eq_true rfl, Nat.le_of_ble_eq_true rfl⟩ rfl rfl (kk := 4) (ii := 0) rfl rfl rfl hl.1 rfl (Nat.le_of_ble_eq_true rfl) dX4_plough_14 ⟨Nat.zero_le _, Nat.zero_le _⟩ (fun H locs hI => ?_)
    rw [← eS2] at hI
    refine lv_if_eq (tgt := 22) hx hb dX4_plough_17 (by decide) (fun h => absurd h (by decide)) (fun _ => ?_)
    refine lv_iconst (v := 0) hx hb dX4_plough_20 (by decide) ?_
    have HE : M_plough S up = (0, S2) := by subst eS2; exact (if_neg c1)
    exact rt_i hx hb hr hlocks hI hA hQ ⟨by rw [HE], by rw [HE]⟩ (Nat.zero_le _) (Nat.zero_le _) dX4_plough_21
  · refine lv_iconst (v := 0) hx hb dX4_plough_9 (by decide) ?_
    refine lv_goto (tgt := 14) hx hb dX4_plough_10 (by decide) ?_
    obtain ⟨S3, eS3⟩ : ∃ z : MS, z = mset S 29 0 0 := ⟨_, rfl⟩
    refine cVv (rest := []) hx hb hml hts hown hK hE hI (cM_fails0 G ad S) kM_101 ⟨Nat.le_of_ble_eq_true rfl, Nat.le_of_ble_eq_true rfl⟩ rfl rfl (kk := 4) (ii := 0) rfl rfl rfl hl.1 rfl (Nat.le_of_ble_eq_true rfl) dX4_plough_14 ⟨Nat.zero_le _, Nat.zero_le _⟩ (fun H locs hI => ?_)
    rw [← eS3] at hI
    refine lv_if_eq (tgt := 22) hx hb dX4_plough_17 (by decide) (fun _ => ?_) (fun h => absurd h (by decide))
    refine lv_aload_n hx hb dX4_plough_22 rfl (lv_at hl 0 rfl) ?_
    refine gM_32 hx hb hts hown hK hI dX4_plough_23 ?_
    refine lv_iload_n hx hb dX4_plough_26 rfl (lv_at hl 1 rfl) ?_
    refine lM_10 hx hb hK hI (isPiece_in hN c1) dX4_plough_27 ?_
    refine lv_istore_n (lv' := [(2, .int (S3.1 10 up.toNatClampNeg)), (0, .ref (ad 0)), (1, .int up)]) hx hb dX4_plough_28 rfl hl (by decide) rfl (fun ls hl => ?_)
    refine lv_aload_n hx hb dX4_plough_29 rfl (lv_at hl 1 rfl) ?_
    refine gM_32 hx hb hts hown hK hI dX4_plough_30 ?_
    refine lv_iload_n hx hb dX4_plough_33 rfl (lv_at hl 2 rfl) ?_
    refine lv_iconst (v := 0) hx hb dX4_plough_34 (by decide) ?_
    obtain ⟨S4, eS4⟩ : ∃ z : MS, z = mset S3 10 up.toNatClampNeg 0 := ⟨_, rfl⟩
    refine sM_10 hx hb hK hI (isPiece_in hN c1) eS4 dX4_plough_35 (fun H locs hI => ?_)
    refine lv_iload_n hx hb dX4_plough_36 rfl (lv_at hl 0 rfl) ?_
    have HE : M_plough S up = (S3.1 10 up.toNatClampNeg, S4) := by subst eS4 eS3; exact (if_pos c1)
    exact rt_i hx hb hr hlocks hI hA hQ ⟨by rw [HE], by rw [HE]⟩ (Nat.zero_le _) (Nat.zero_le _) dX4_plough_37

def M_open (S : MS) (up : Int32) (uk : Int32) : Int32 × MS :=
  if M_isPiece S up then
    if M_isIn S uk 0 2 then
      let S4 := mset S 29 0 0
      let S5 := mset S4 12 up.toNatClampNeg uk
      (S4.1 12 up.toNatClampNeg, S5)
    else
      let S3 := mset S 29 0 2
      (0, S3)
  else
    let S6 := mset S 29 0 1
    (0, S6)
set_option maxHeartbeats 4000000 in
set_option maxRecDepth 100000 in
theorem cM_open (G : GX) (ad : Nat → Nat) (S : MS) (up : Int32) (uk : Int32) {np nv : Nat} (hN : MNn S np nv) : FC G yX4_open cX4_open 4 (some .int) ({ frames := 2, cells := 0, slots := 0, locals := 43 }) [.ref (ad 0), .int up, .int uk] (mW G.2.2.2 ad S) (pv (.int (M_open S up uk).1) (mW G.2.2.2 ad (M_open S up uk).2)) := by
  refine FC.go (lv := [(0, .ref (ad 0)), (1, .int up), (2, .int uk)]) (by decide) (Nat.le_of_ble_eq_true rfl) rfl (fun p e s m args below meth c A H locs ls Q hx hb hr hts hown hml hlocks hnm hK hE hI hA hl hQ => ?_)
  have hown : s.vm.findClass RX4 = some m.cls := hown
  refine lv_aload_n hx hb dX4_open_0 rfl (lv_at hl 0 rfl) ?_
  refine lv_aload_n hx hb dX4_open_1 rfl (lv_at hl 0 rfl) ?_
  refine lv_iload_n hx hb dX4_open_2 rfl (lv_at hl 1 rfl) ?_
  refine cVv (rest := [.ref (ad 0)]) hx hb hml hts hown hK hE hI (cM_isPiece G ad S up) kM_109 ⟨Nat.le_of_ble_eq_true rfl, Nat.le_of_ble_eq_true rfl⟩ rfl rfl (kk := 4) (ii := 0) rfl rfl rfl hl.1 rfl (Nat.le_of_ble_eq_true rfl) dX4_open_3 ⟨Nat.zero_le _, Nat.zero_le _⟩ (fun H locs hI => ?_)
  refine xb_ne (tgt := 13) hx hb dX4_open_6 (by decide) (fun c1 => ?_) (fun c1 => ?_)
  · refine lv_iload_n hx hb dX4_open_13 rfl (lv_at hl 2 rfl) ?_
    refine lv_iconst (v := 0) hx hb dX4_open_14 (by decide) ?_
    refine lv_iconst (v := 2) hx hb dX4_open_15 (by decide) ?_
    refine cSv (rest := [.ref (ad 0)]) hx hb hml hts hown hK hE hI (cM_isIn G ad S uk 0 2) kM_94 ⟨Nat.le_of_ble_eq_true rfl, Nat.le_of_ble_eq_true rfl⟩ rfl rfl hl.1 rfl (Nat.le_of_ble_eq_true rfl) dX4_open_16 ⟨Nat.zero_le _, Nat.zero_le _⟩ (fun H locs hI => ?_)
    refine xb_eq (tgt := 26) hx hb dX4_open_19 (by decide) (fun c2 => ?_) (fun c2 => ?_)
    · refine lv_iconst (v := 2) hx hb dX4_open_26 (by decide) ?_
      obtain ⟨S3, eS3⟩ : ∃ z : MS, z = mset S 29 0 2 := ⟨_, rfl⟩
      refine cVv (rest := []) hx hb hml hts hown hK hE hI (cM_fails2 G ad S) kM_101 ⟨Nat.le_of_ble_eq_true rfl, Nat.le_of_ble_eq_true rfl⟩ rfl rfl (kk := 4) (ii := 0) rfl rfl rfl hl.1 rfl (Nat.le_of_ble_eq_true rfl) dX4_open_27 ⟨Nat.zero_le _, Nat.zero_le _⟩ (fun H locs hI => ?_)
      rw [← eS3] at hI
      refine lv_if_eq (tgt := 35) hx hb dX4_open_30 (by decide) (fun h => absurd h (by decide)) (fun _ => ?_)
      refine lv_iconst (v := 0) hx hb dX4_open_33 (by decide) ?_
      have HE : M_open S up uk = (0, S3) := by subst eS3; exact (if_pos c1).trans ((if_neg c2))
      exact rt_i hx hb hr hlocks hI hA hQ ⟨by rw [HE], by rw [HE]⟩ (Nat.zero_le _) (Nat.zero_le _) dX4_open_34
    · refine lv_iconst (v := 0) hx hb dX4_open_22 (by decide) ?_
      refine lv_goto (tgt := 27) hx hb dX4_open_23 (by decide) ?_
      obtain ⟨S4, eS4⟩ : ∃ z : MS, z = mset S 29 0 0 := ⟨_, rfl⟩
      refine cVv (rest := []) hx hb hml hts hown hK hE hI (cM_fails0 G ad S) kM_101 ⟨Nat.le_of_ble_eq_true rfl, Nat.le_of_ble_eq_true rfl⟩ rfl rfl (kk := 4) (ii := 0) rfl rfl rfl hl.1 rfl (Nat.le_of_ble_eq_true rfl) dX4_open_27 ⟨Nat.zero_le _, Nat.zero_le _⟩ (fun H locs hI => ?_)
      rw [← eS4] at hI
      refine lv_if_eq (tgt := 35) hx hb dX4_open_30 (by decide) (fun _ => ?_) (fun h => absurd h (by decide))
      refine lv_aload_n hx hb dX4_open_35 rfl (lv_at hl 0 rfl) ?_
      refine gM_38 hx hb hts hown hK hI dX4_open_36 ?_
      refine lv_iload_n hx hb dX4_open_39 rfl (lv_at hl 1 rfl) ?_
      refine lM_12 hx hb hK hI (isPiece_in hN c1) dX4_open_40 ?_
      refine lv_istore_n (lv' := [(3, .int (S4.1 12 up.toNatClampNeg)), (0, .ref (ad 0)), (1, .int up), (2, .int uk)]) hx hb dX4_open_41 rfl hl (by decide) rfl (fun ls hl => ?_)
      refine lv_aload_n hx hb dX4_open_42 rfl (lv_at hl 1 rfl) ?_
      refine gM_38 hx hb hts hown hK hI dX4_open_43 ?_
      refine lv_iload_n hx hb dX4_open_46 rfl (lv_at hl 2 rfl) ?_
      refine lv_iload_n hx hb dX4_open_47 rfl (lv_at hl 3 rfl) ?_
      obtain ⟨S5, eS5⟩ : ∃ z : MS, z = mset S4 12 up.toNatClampNeg uk := ⟨_, rfl⟩
      refine sM_12 hx hb hK hI (isPiece_in hN c1) eS5 dX4_open_48 (fun H locs hI => ?_)
      refine lv_iload_n hx hb dX4_open_49 rfl (lv_at hl 0 rfl) ?_
      have HE : M_open S up uk = (S4.1 12 up.toNatClampNeg, S5) := by subst eS5 eS4; exact (if_pos c1).trans ((if_pos c2))
      exact rt_i hx hb hr hlocks hI hA hQ ⟨by rw [HE], by rw [HE]⟩ (Nat.zero_le _) (Nat.zero_le _) dX4_open_50
  · refine lv_iconst (v := 1) hx hb dX4_open_9 (by decide) ?_
    refine lv_goto (tgt := 27) hx hb dX4_open_10 (by decide) ?_
    obtain ⟨S6, eS6⟩ : ∃ z : MS, z = mset S 29 0 1 := ⟨_, rfl⟩
    refine cVv (rest := []) hx hb hml hts hown hK hE hI (cM_fails1 G ad S) kM_101 ⟨Nat.le_of_ble_eq_true rfl, Nat.le_of_ble_eq_true rfl⟩ rfl rfl (kk := 4) (ii := 0) rfl rfl rfl hl.1 rfl (Nat.le_of_ble_eq_true rfl) dX4_open_27 ⟨Nat.zero_le _, Nat.zero_le _⟩ (fun H locs hI => ?_)
    rw [← eS6] at hI
    refine lv_if_eq (tgt := 35) hx hb dX4_open_30 (by decide) (fun h => absurd h (by decide)) (fun _ => ?_)
    refine lv_iconst (v := 0) hx hb dX4_open_33 (by decide) ?_
    have HE : M_open S up uk = (0, S6) := by subst eS6; exact (if_neg c1)
    exact rt_i hx hb hr hlocks hI hA hQ ⟨by rw [HE], by rw [HE]⟩ (Nat.zero_le _) (Nat.zero_le _) dX4_open_34

def M_limit (S : MS) (up : Int32) (uk : Int32) : Int32 × MS :=
  if M_isPiece S up then
    if M_isIn S uk 1 300 then
      let S4 := mset S 29 0 0
      let S5 := mset S4 13 up.toNatClampNeg uk
      (S4.1 13 up.toNatClampNeg, S5)
    else
      let S3 := mset S 29 0 2
      (0, S3)
  else
    let S6 := mset S 29 0 1
    (0, S6)
set_option maxHeartbeats 4000000 in
set_option maxRecDepth 100000 in
theorem cM_limit (G : GX) (ad : Nat → Nat) (S : MS) (up : Int32) (uk : Int32) {np nv : Nat} (hN : MNn S np nv) : FC G yX4_limit cX4_limit 4 (some .int) ({ frames := 2, cells := 0, slots := 0, locals := 43 }) [.ref (ad 0), .int up, .int uk] (mW G.2.2.2 ad S) (pv (.int (M_limit S up uk).1) (mW G.2.2.2 ad (M_limit S up uk).2)) := by
  refine FC.go (lv := [(0, .ref (ad 0)), (1, .int up), (2, .int uk)]) (by decide) (Nat.le_of_ble_eq_true rfl) rfl (fun p e s m args below meth c A H locs ls Q hx hb hr hts hown hml hlocks hnm hK hE hI hA hl hQ => ?_)
  have hown : s.vm.findClass RX4 = some m.cls := hown
  refine lv_aload_n hx hb dX4_limit_0 rfl (lv_at hl 0 rfl) ?_
  refine lv_aload_n hx hb dX4_limit_1 rfl (lv_at hl 0 rfl) ?_
  refine lv_iload_n hx hb dX4_limit_2 rfl (lv_at hl 1 rfl) ?_
  refine cVv (rest := [.ref (ad 0)]) hx hb hml hts hown hK hE hI (cM_isPiece G ad S up) kM_109 ⟨Nat.le_of_ble_eq_true rfl, Nat.le_of_ble_eq_true rfl⟩ rfl rfl (kk := 4) (ii := 0) rfl rfl rfl hl.1 rfl (Nat.le_of_ble_eq_true rfl) dX4_limit_3 ⟨Nat.zero_le _, Nat.zero_le _⟩ (fun H locs hI => ?_)
  refine xb_ne (tgt := 13) hx hb dX4_limit_6 (by decide) (fun c1 => ?_) (fun c1 => ?_)
  · refine lv_iload_n hx hb dX4_limit_13 rfl (lv_at hl 2 rfl) ?_
    refine lv_iconst (v := 1) hx hb dX4_limit_14 (by decide) ?_
    refine lv_sipush (v := 300) hx hb dX4_limit_15 (by decide) ?_
    refine cSv (rest := [.ref (ad 0)]) hx hb hml hts hown hK hE hI (cM_isIn G ad S uk 1 300) kM_94 ⟨Nat.le_of_ble_eq_true rfl, Nat.le_of_ble_eq_true rfl⟩ rfl rfl hl.1 rfl (Nat.le_of_ble_eq_true rfl) dX4_limit_18 ⟨Nat.zero_le _, Nat.zero_le _⟩ (fun H locs hI => ?_)
    refine xb_eq (tgt := 28) hx hb dX4_limit_21 (by decide) (fun c2 => ?_) (fun c2 => ?_)
    · refine lv_iconst (v := 2) hx hb dX4_limit_28 (by decide) ?_
      obtain ⟨S3, eS3⟩ : ∃ z : MS, z = mset S 29 0 2 := ⟨_, rfl⟩
      refine cVv (rest := []) hx hb hml hts hown hK hE hI (cM_fails2 G ad S) kM_101 ⟨Nat.le_of_ble_eq_true rfl, Nat.le_of_ble_eq_true rfl⟩ rfl rfl (kk := 4) (ii := 0) rfl rfl rfl hl.1 rfl (Nat.le_of_ble_eq_true rfl) dX4_limit_29 ⟨Nat.zero_le _, Nat.zero_le _⟩ (fun H locs hI => ?_)
      rw [← eS3] at hI
      refine lv_if_eq (tgt := 37) hx hb dX4_limit_32 (by decide) (fun h => absurd h (by decide)) (fun _ => ?_)
      refine lv_iconst (v := 0) hx hb dX4_limit_35 (by decide) ?_
      have HE : M_limit S up uk = (0, S3) := by subst eS3; exact (if_pos c1).trans ((if_neg c2))
      exact rt_i hx hb hr hlocks hI hA hQ ⟨by rw [HE], by rw [HE]⟩ (Nat.zero_le _) (Nat.zero_le _) dX4_limit_36
    · refine lv_iconst (v := 0) hx hb dX4_limit_24 (by decide) ?_
      refine lv_goto (tgt := 29) hx hb dX4_limit_25 (by decide) ?_
      obtain ⟨S4, eS4⟩ : ∃ z : MS, z = mset S 29 0 0 := ⟨_, rfl⟩
      refine cVv (rest := []) hx hb hml hts hown hK hE hI (cM_fails0 G ad S) kM_101 ⟨Nat.le_of_ble_eq_true rfl, Nat.le_of_ble_eq_true rfl⟩ rfl rfl (kk := 4) (ii := 0) rfl rfl rfl hl.1 rfl (Nat.le_of_ble_eq_true rfl) dX4_limit_29 ⟨Nat.zero_le _, Nat.zero_le _⟩ (fun H locs hI => ?_)
      rw [← eS4] at hI
      refine lv_if_eq (tgt := 37) hx hb dX4_limit_32 (by decide) (fun _ => ?_) (fun h => absurd h (by decide))
      refine lv_aload_n hx hb dX4_limit_37 rfl (lv_at hl 0 rfl) ?_
      refine gM_41 hx hb hts hown hK hI dX4_limit_38 ?_
      refine lv_iload_n hx hb dX4_limit_41 rfl (lv_at hl 1 rfl) ?_
      refine lM_13 hx hb hK hI (isPiece_in hN c1) dX4_limit_42 ?_
      refine lv_istore_n (lv' := [(3, .int (S4.1 13 up.toNatClampNeg)), (0, .ref (ad 0)), (1, .int up), (2, .int uk)]) hx hb dX4_limit_43 rfl hl (by decide) rfl (fun ls hl => ?_)
      refine lv_aload_n hx hb dX4_limit_44 rfl (lv_at hl 1 rfl) ?_
      refine gM_41 hx hb hts hown hK hI dX4_limit_45 ?_
      refine lv_iload_n hx hb dX4_limit_48 rfl (lv_at hl 2 rfl) ?_
      refine lv_iload_n hx hb dX4_limit_49 rfl (lv_at hl 3 rfl) ?_
      obtain ⟨S5, eS5⟩ : ∃ z : MS, z = mset S4 13 up.toNatClampNeg uk := ⟨_, rfl⟩
      refine sM_13 hx hb hK hI (isPiece_in hN c1) eS5 dX4_limit_50 (fun H locs hI => ?_)
      refine lv_iload_n hx hb dX4_limit_51 rfl (lv_at hl 0 rfl) ?_
      have HE : M_limit S up uk = (S4.1 13 up.toNatClampNeg, S5) := by subst eS5 eS4; exact (if_pos c1).trans ((if_pos c2))
      exact rt_i hx hb hr hlocks hI hA hQ ⟨by rw [HE], by rw [HE]⟩ (Nat.zero_le _) (Nat.zero_le _) dX4_limit_52
  · refine lv_iconst (v := 1) hx hb dX4_limit_9 (by decide) ?_
    refine lv_goto (tgt := 29) hx hb dX4_limit_10 (by decide) ?_
    obtain ⟨S6, eS6⟩ : ∃ z : MS, z = mset S 29 0 1 := ⟨_, rfl⟩
    refine cVv (rest := []) hx hb hml hts hown hK hE hI (cM_fails1 G ad S) kM_101 ⟨Nat.le_of_ble_eq_true rfl, Nat.le_of_ble_eq_true rfl⟩ rfl rfl (kk := 4) (ii := 0) rfl rfl rfl hl.1 rfl (Nat.le_of_ble_eq_true rfl) dX4_limit_29 ⟨Nat.zero_le _, Nat.zero_le _⟩ (fun H locs hI => ?_)
    rw [← eS6] at hI
    refine lv_if_eq (tgt := 37) hx hb dX4_limit_32 (by decide) (fun h => absurd h (by decide)) (fun _ => ?_)
    refine lv_iconst (v := 0) hx hb dX4_limit_35 (by decide) ?_
    have HE : M_limit S up uk = (0, S6) := by subst eS6; exact (if_neg c1)
    exact rt_i hx hb hr hlocks hI hA hQ ⟨by rw [HE], by rw [HE]⟩ (Nat.zero_le _) (Nat.zero_le _) dX4_limit_36

def M_flood (S : MS) (up : Int32) (uk : Int32) : Int32 × MS :=
  if M_isPiece S up then
    if M_isIn S uk 1 100 then
      if (M_isPiece S up) ∧ ((M_isIn S uk 1 100) ∧ ((M_isWater S up) ∧ ((¬ (((S.1 7 up.toNatClampNeg) + (S.1 8 up.toNatClampNeg)) ≤ 0)) ∧ (¬ (500 < ((S.1 9 up.toNatClampNeg) + uk)))))) then
        let S6 := mset S 29 0 0
        let S7 := mset S6 10 up.toNatClampNeg 0
        let S8 := mset S7 9 up.toNatClampNeg ((S7.1 9 up.toNatClampNeg) + uk)
        (S8.1 9 up.toNatClampNeg, S8)
      else
        let S5 := mset S 29 0 3
        (0, S5)
    else
      let S9 := mset S 29 0 2
      (0, S9)
  else
    let S10 := mset S 29 0 1
    (0, S10)
set_option maxHeartbeats 4000000 in
set_option maxRecDepth 100000 in
theorem cM_flood (G : GX) (ad : Nat → Nat) (S : MS) (up : Int32) (uk : Int32) {np nv : Nat} (hN : MNn S np nv) : FC G yX4_flood cX4_flood 6 (some .int) ({ frames := 2, cells := 0, slots := 0, locals := 43 }) [.ref (ad 0), .int up, .int uk] (mW G.2.2.2 ad S) (pv (.int (M_flood S up uk).1) (mW G.2.2.2 ad (M_flood S up uk).2)) := by
  refine FC.go (lv := [(0, .ref (ad 0)), (1, .int up), (2, .int uk)]) (by decide) (Nat.le_of_ble_eq_true rfl) rfl (fun p e s m args below meth c A H locs ls Q hx hb hr hts hown hml hlocks hnm hK hE hI hA hl hQ => ?_)
  have hown : s.vm.findClass RX4 = some m.cls := hown
  refine lv_aload_n hx hb dX4_flood_0 rfl (lv_at hl 0 rfl) ?_
  refine lv_iload_n hx hb dX4_flood_1 rfl (lv_at hl 1 rfl) ?_
  refine cVv (rest := []) hx hb hml hts hown hK hE hI (cM_isPiece G ad S up) kM_109 ⟨Nat.le_of_ble_eq_true rfl, Nat.le_of_ble_eq_true rfl⟩ rfl rfl (kk := 4) (ii := 0) rfl rfl rfl hl.1 rfl (Nat.le_of_ble_eq_true rfl) dX4_flood_2 ⟨Nat.zero_le _, Nat.zero_le _⟩ (fun H locs hI => ?_)
  refine lv_istore_n (lv' := [(3, .int (bI (M_isPiece S up))), (0, .ref (ad 0)), (1, .int up), (2, .int uk)]) hx hb dX4_flood_5 rfl hl (by decide) rfl (fun ls hl => ?_)
  refine lv_iload_n hx hb dX4_flood_6 rfl (lv_at hl 3 rfl) ?_
  refine lv_iconst (v := 1) hx hb dX4_flood_7 (by decide) ?_
  refine lv_bipush (v := 100) hx hb dX4_flood_8 (by decide) ?_
  refine cSv (rest := []) hx hb hml hts hown hK hE hI (cM_isIn G ad S uk 1 100) kM_94 ⟨Nat.le_of_ble_eq_true rfl, Nat.le_of_ble_eq_true rfl⟩ rfl rfl hl.1 rfl (Nat.le_of_ble_eq_true rfl) dX4_flood_10 ⟨Nat.zero_le _, Nat.zero_le _⟩ (fun H locs hI => ?_)
  refine lv_istore (lv' := [(4, .int (bI (M_isIn S uk 1 100))), (3, .int (bI (M_isPiece S up))), (0, .ref (ad 0)), (1, .int up), (2, .int uk)]) hx hb dX4_flood_13 hl (by decide) rfl (fun ls hl => ?_)
  refine lv_iload_n hx hb dX4_flood_15 rfl (lv_at hl 1 rfl) ?_
  have hJ1 : ∀ (H : Heap) (locs : List Loc), (fI G.2.2.1 A s.heap (mW G.2.2.2 ad S) H locs) → W p G.1 e ({ frames := 2, cells := 0, slots := 0, locals := 43 }) s m args below meth c H locs 0 0 Q (F0 m 67 ls [.int (bI ((M_isPiece S up) ∧ ((M_isIn S uk 1 100) ∧ ((M_isWater S up) ∧ ((¬ (((S.1 7 up.toNatClampNeg) + (S.1 8 up.toNatClampNeg)) ≤ 0)) ∧ (¬ (500 < ((S.1 9 up.toNatClampNeg) + uk))))))))]) := by
    intro H locs hI
    refine lv_istore (lv' := [(5, .int (bI ((M_isPiece S up) ∧ ((M_isIn S uk 1 100) ∧ ((M_isWater S up) ∧ ((¬ (((S.1 7 up.toNatClampNeg) + (S.1 8 up.toNatClampNeg)) ≤ 0)) ∧ (¬ (500 < ((S.1 9 up.toNatClampNeg) + uk))))))))), (4, .int (bI (M_isIn S uk 1 100))), (3, .int (bI (M_isPiece S up))), (0, .ref (ad 0)), (1, .int up), (2, .int uk)]) hx hb dX4_flood_67 hl (by decide) rfl (fun ls hl => ?_)
    refine lv_aload_n hx hb dX4_flood_69 rfl (lv_at hl 3 rfl) ?_
    refine lv_iload_n hx hb dX4_flood_70 rfl (lv_at hl 2 rfl) ?_
    refine xb_ne (tgt := 78) hx hb dX4_flood_71 (by decide) (fun c2 => ?_) (fun c2 => ?_)
    · refine lv_iload hx hb dX4_flood_78 (lv_at hl 1 rfl) ?_
      refine xb_ne (tgt := 87) hx hb dX4_flood_80 (by decide) (fun c3 => ?_) (fun c3 => ?_)
      · refine lv_iload hx hb dX4_flood_87 (lv_at hl 0 rfl) ?_
        refine xb_eq (tgt := 96) hx hb dX4_flood_89 (by decide) (fun c4 => ?_) (fun c4 => ?_)
        · refine lv_iconst (v := 3) hx hb dX4_flood_96 (by decide) ?_
          obtain ⟨S5, eS5⟩ : ∃ z : MS, z = mset S 29 0 3 := ⟨_, rfl⟩
          refine cVv (rest := []) hx hb hml hts hown hK hE hI (cM_fails3 G ad S) kM_101 ⟨Nat.le_of_ble_eq_true rfl, Nat.le_of_ble_eq_true rfl⟩ rfl rfl (kk := 4) (ii := 0) rfl rfl rfl hl.1 rfl (Nat.le_of_ble_eq_true rfl) dX4_flood_97 ⟨Nat.zero_le _, Nat.zero_le _⟩ (fun H locs hI => ?_)
          rw [← eS5] at hI
          refine lv_if_eq (tgt := 105) hx hb dX4_flood_100 (by decide) (fun h => absurd h (by decide)) (fun _ => ?_)
          refine lv_iconst (v := 0) hx hb dX4_flood_103 (by decide) ?_
          have HE : M_flood S up uk = (0, S5) := by subst eS5; exact (if_pos c2).trans ((if_pos c3).trans ((if_neg c4)))
          exact rt_i hx hb hr hlocks hI hA hQ ⟨by rw [HE], by rw [HE]⟩ (Nat.zero_le _) (Nat.zero_le _) dX4_flood_104
        · refine lv_iconst (v := 0) hx hb dX4_flood_92 (by decide) ?_
          refine lv_goto (tgt := 97) hx hb dX4_flood_93 (by decide) ?_
          obtain ⟨S6, eS6⟩ : ∃ z : MS, z = mset S 29 0 0 := ⟨_, rfl⟩
          refine cVv (rest := []) hx hb hml hts hown hK hE hI (cM_fails0 G ad S) kM_101 ⟨Nat.le_of_ble_eq_true rfl, Nat.le_of_ble_eq_true rfl⟩ rfl rfl (kk := 4) (ii := 0) rfl rfl rfl hl.1 rfl (Nat.le_of_ble_eq_true rfl) dX4_flood_97 ⟨Nat.zero_le _, Nat.zero_le _⟩ (fun H locs hI => ?_)
          rw [← eS6] at hI
          refine lv_if_eq (tgt := 105) hx hb dX4_flood_100 (by decide) (fun _ => ?_) (fun h => absurd h (by decide))
          refine lv_aload_n hx hb dX4_flood_105 rfl (lv_at hl 3 rfl) ?_
          refine gM_32 hx hb hts hown hK hI dX4_flood_106 ?_
          refine lv_iload_n hx hb dX4_flood_109 rfl (lv_at hl 4 rfl) ?_
          refine lv_iconst (v := 0) hx hb dX4_flood_110 (by decide) ?_
          obtain ⟨S7, eS7⟩ : ∃ z : MS, z = mset S6 10 up.toNatClampNeg 0 := ⟨_, rfl⟩
          refine sM_10 hx hb hK hI (isPiece_in hN (c4).1) eS7 dX4_flood_111 (fun H locs hI => ?_)
          refine lv_aload_n hx hb dX4_flood_112 rfl (lv_at hl 3 rfl) ?_
          refine gM_29 hx hb hts hown hK hI dX4_flood_113 ?_
          refine lv_iload_n hx hb dX4_flood_116 rfl (lv_at hl 4 rfl) ?_
          refine lv_dup2_11 hx hb dX4_flood_117 rfl rfl ?_
          refine lM_9 hx hb hK hI (isPiece_in hN (c4).1) dX4_flood_118 ?_
          refine lv_iload_n hx hb dX4_flood_119 rfl (lv_at hl 5 rfl) ?_
          refine lv_iadd hx hb dX4_flood_120 ?_
          obtain ⟨S8, eS8⟩ : ∃ z : MS, z = mset S7 9 up.toNatClampNeg ((S7.1 9 up.toNatClampNeg) + uk) := ⟨_, rfl⟩
          refine sM_9 hx hb hK hI (isPiece_in hN (c4).1) eS8 dX4_flood_121 (fun H locs hI => ?_)
          refine lv_aload_n hx hb dX4_flood_122 rfl (lv_at hl 3 rfl) ?_
          refine gM_29 hx hb hts hown hK hI dX4_flood_123 ?_
          refine lv_iload_n hx hb dX4_flood_126 rfl (lv_at hl 4 rfl) ?_
          refine lM_9 hx hb hK hI (isPiece_in hN (c4).1) dX4_flood_127 ?_
          have HE : M_flood S up uk = (S8.1 9 up.toNatClampNeg, S8) := by subst eS8 eS7 eS6; exact (if_pos c2).trans ((if_pos c3).trans ((if_pos c4)))
          exact rt_i hx hb hr hlocks hI hA hQ ⟨by rw [HE], by rw [HE]⟩ (Nat.zero_le _) (Nat.zero_le _) dX4_flood_128
      · refine lv_iconst (v := 2) hx hb dX4_flood_83 (by decide) ?_
        refine lv_goto (tgt := 97) hx hb dX4_flood_84 (by decide) ?_
        obtain ⟨S9, eS9⟩ : ∃ z : MS, z = mset S 29 0 2 := ⟨_, rfl⟩
        refine cVv (rest := []) hx hb hml hts hown hK hE hI (cM_fails2 G ad S) kM_101 ⟨Nat.le_of_ble_eq_true rfl, Nat.le_of_ble_eq_true rfl⟩ rfl rfl (kk := 4) (ii := 0) rfl rfl rfl hl.1 rfl (Nat.le_of_ble_eq_true rfl) dX4_flood_97 ⟨Nat.zero_le _, Nat.zero_le _⟩ (fun H locs hI => ?_)
        rw [← eS9] at hI
        refine lv_if_eq (tgt := 105) hx hb dX4_flood_100 (by decide) (fun h => absurd h (by decide)) (fun _ => ?_)
        refine lv_iconst (v := 0) hx hb dX4_flood_103 (by decide) ?_
        have HE : M_flood S up uk = (0, S9) := by subst eS9; exact (if_pos c2).trans ((if_neg c3))
        exact rt_i hx hb hr hlocks hI hA hQ ⟨by rw [HE], by rw [HE]⟩ (Nat.zero_le _) (Nat.zero_le _) dX4_flood_104
    · refine lv_iconst (v := 1) hx hb dX4_flood_74 (by decide) ?_
      refine lv_goto (tgt := 97) hx hb dX4_flood_75 (by decide) ?_
      obtain ⟨S10, eS10⟩ : ∃ z : MS, z = mset S 29 0 1 := ⟨_, rfl⟩
      refine cVv (rest := []) hx hb hml hts hown hK hE hI (cM_fails1 G ad S) kM_101 ⟨Nat.le_of_ble_eq_true rfl, Nat.le_of_ble_eq_true rfl⟩ rfl rfl (kk := 4) (ii := 0) rfl rfl rfl hl.1 rfl (Nat.le_of_ble_eq_true rfl) dX4_flood_97 ⟨Nat.zero_le _, Nat.zero_le _⟩ (fun H locs hI => ?_)
      rw [← eS10] at hI
      refine lv_if_eq (tgt := 105) hx hb dX4_flood_100 (by decide) (fun h => absurd h (by decide)) (fun _ => ?_)
      refine lv_iconst (v := 0) hx hb dX4_flood_103 (by decide) ?_
      have HE : M_flood S up uk = (0, S10) := by subst eS10; exact (if_neg c2)
      exact rt_i hx hb hr hlocks hI hA hQ ⟨by rw [HE], by rw [HE]⟩ (Nat.zero_le _) (Nat.zero_le _) dX4_flood_104
  refine xb_eq (tgt := 66) hx hb dX4_flood_16 (by decide) (fun c11 => ?_) (fun c11 => ?_)
  · refine lv_iconst (v := 0) hx hb dX4_flood_66 (by decide) ?_
    have eb12 : (0 : Int32) = bI ((M_isPiece S up) ∧ ((M_isIn S uk 1 100) ∧ ((M_isWater S up) ∧ ((¬ (((S.1 7 up.toNatClampNeg) + (S.1 8 up.toNatClampNeg)) ≤ 0)) ∧ (¬ (500 < ((S.1 9 up.toNatClampNeg) + uk))))))) := (bI_f (fun k => c11 k.1)).symm
    rw [eb12]
    exact hJ1 _ _ hI
  · refine lv_iload hx hb dX4_flood_19 (lv_at hl 0 rfl) ?_
    refine xb_eq (tgt := 66) hx hb dX4_flood_21 (by decide) (fun c13 => ?_) (fun c13 => ?_)
    · refine lv_iconst (v := 0) hx hb dX4_flood_66 (by decide) ?_
      have eb14 : (0 : Int32) = bI ((M_isPiece S up) ∧ ((M_isIn S uk 1 100) ∧ ((M_isWater S up) ∧ ((¬ (((S.1 7 up.toNatClampNeg) + (S.1 8 up.toNatClampNeg)) ≤ 0)) ∧ (¬ (500 < ((S.1 9 up.toNatClampNeg) + uk))))))) := (bI_f (fun k => (fun k => c13 k.1) k.2)).symm
      rw [eb14]
      exact hJ1 _ _ hI
    · refine lv_aload_n hx hb dX4_flood_24 rfl (lv_at hl 2 rfl) ?_
      refine lv_iload_n hx hb dX4_flood_25 rfl (lv_at hl 3 rfl) ?_
      refine cVv (rest := []) hx hb hml hts hown hK hE hI (cM_isWater G ad S up (isPiece_in hN c11)) kM_112 ⟨Nat.le_of_ble_eq_true rfl, Nat.le_of_ble_eq_true rfl⟩ rfl rfl (kk := 4) (ii := 0) rfl rfl rfl hl.1 rfl (Nat.le_of_ble_eq_true rfl) dX4_flood_26 ⟨Nat.zero_le _, Nat.zero_le _⟩ (fun H locs hI => ?_)
      refine xb_eq (tgt := 66) hx hb dX4_flood_29 (by decide) (fun c15 => ?_) (fun c15 => ?_)
      · refine lv_iconst (v := 0) hx hb dX4_flood_66 (by decide) ?_
        have eb16 : (0 : Int32) = bI ((M_isPiece S up) ∧ ((M_isIn S uk 1 100) ∧ ((M_isWater S up) ∧ ((¬ (((S.1 7 up.toNatClampNeg) + (S.1 8 up.toNatClampNeg)) ≤ 0)) ∧ (¬ (500 < ((S.1 9 up.toNatClampNeg) + uk))))))) := (bI_f (fun k => (fun k => (fun k => c15 k.1) k.2) k.2)).symm
        rw [eb16]
        exact hJ1 _ _ hI
      · refine lv_aload_n hx hb dX4_flood_32 rfl (lv_at hl 2 rfl) ?_
        refine gM_23 hx hb hts hown hK hI dX4_flood_33 ?_
        refine lv_iload_n hx hb dX4_flood_36 rfl (lv_at hl 3 rfl) ?_
        refine lM_7 hx hb hK hI (isPiece_in hN c11) dX4_flood_37 ?_
        refine lv_aload_n hx hb dX4_flood_38 rfl (lv_at hl 2 rfl) ?_
        refine gM_26 hx hb hts hown hK hI dX4_flood_39 ?_
        refine lv_iload_n hx hb dX4_flood_42 rfl (lv_at hl 3 rfl) ?_
        refine lM_8 hx hb hK hI (isPiece_in hN c11) dX4_flood_43 ?_
        refine lv_iadd hx hb dX4_flood_44 ?_
        refine lv_if_le (tgt := 66) hx hb dX4_flood_45 (by decide) (fun c17 => ?_) (fun c17 => ?_)
        · refine lv_iconst (v := 0) hx hb dX4_flood_66 (by decide) ?_
          have eb18 : (0 : Int32) = bI ((M_isPiece S up) ∧ ((M_isIn S uk 1 100) ∧ ((M_isWater S up) ∧ ((¬ (((S.1 7 up.toNatClampNeg) + (S.1 8 up.toNatClampNeg)) ≤ 0)) ∧ (¬ (500 < ((S.1 9 up.toNatClampNeg) + uk))))))) := (bI_f (fun k => (fun k => (fun k => (fun k => k.1 c17) k.2) k.2) k.2)).symm
          rw [eb18]
          exact hJ1 _ _ hI
        · refine lv_aload_n hx hb dX4_flood_48 rfl (lv_at hl 2 rfl) ?_
          refine gM_29 hx hb hts hown hK hI dX4_flood_49 ?_
          refine lv_iload_n hx hb dX4_flood_52 rfl (lv_at hl 3 rfl) ?_
          refine lM_9 hx hb hK hI (isPiece_in hN c11) dX4_flood_53 ?_
          refine lv_iload_n hx hb dX4_flood_54 rfl (lv_at hl 4 rfl) ?_
          refine lv_iadd hx hb dX4_flood_55 ?_
          refine lv_sipush (v := 500) hx hb dX4_flood_56 (by decide) ?_
          refine lv_icmp_gt (tgt := 66) hx hb dX4_flood_59 (by decide) (fun c19 => ?_) (fun c19 => ?_)
          · refine lv_iconst (v := 0) hx hb dX4_flood_66 (by decide) ?_
            have eb20 : (0 : Int32) = bI ((M_isPiece S up) ∧ ((M_isIn S uk 1 100) ∧ ((M_isWater S up) ∧ ((¬ (((S.1 7 up.toNatClampNeg) + (S.1 8 up.toNatClampNeg)) ≤ 0)) ∧ (¬ (500 < ((S.1 9 up.toNatClampNeg) + uk))))))) := (bI_f (fun k => (fun k => (fun k => (fun k => (fun k => k c19) k.2) k.2) k.2) k.2)).symm
            rw [eb20]
            exact hJ1 _ _ hI
          · refine lv_iconst (v := 1) hx hb dX4_flood_62 (by decide) ?_
            refine lv_goto (tgt := 67) hx hb dX4_flood_63 (by decide) ?_
            have eb21 : (1 : Int32) = bI ((M_isPiece S up) ∧ ((M_isIn S uk 1 100) ∧ ((M_isWater S up) ∧ ((¬ (((S.1 7 up.toNatClampNeg) + (S.1 8 up.toNatClampNeg)) ≤ 0)) ∧ (¬ (500 < ((S.1 9 up.toNatClampNeg) + uk))))))) := (bI_t ⟨c11, ⟨c13, ⟨c15, ⟨c17, c19⟩⟩⟩⟩).symm
            rw [eb21]
            exact hJ1 _ _ hI

def M_thick (S : MS) (up : Int32) : UInt64 :=
  FP.dadd (FP.i2d (S.1 7 up.toNatClampNeg)) (FP.dmul (4602678819172646912 : UInt64) (FP.i2d (S.1 8 up.toNatClampNeg)))
set_option maxHeartbeats 4000000 in
set_option maxRecDepth 100000 in
theorem cM_thick (G : GX) (ad : Nat → Nat) (S : MS) (up : Int32) (hp : vp_in up 10) : FC G yX4_thick cX4_thick 2 (some .double) ({ frames := 0, cells := 0, slots := 0, locals := 0 }) [.ref (ad 0), .int up] (mW G.2.2.2 ad S) (pv (.double (M_thick S up)) (mW G.2.2.2 ad S)) := by
  refine FC.go (lv := [(0, .ref (ad 0)), (1, .int up)]) (by decide) (Nat.le_of_ble_eq_true rfl) rfl (fun p e s m args below meth c A H locs ls Q hx hb hr hts hown hml hlocks hnm hK hE hI hA hl hQ => ?_)
  have hown : s.vm.findClass RX4 = some m.cls := hown
  refine lv_aload_n hx hb dX4_thick_0 rfl (lv_at hl 0 rfl) ?_
  refine gM_23 hx hb hts hown hK hI dX4_thick_1 ?_
  refine lv_iload_n hx hb dX4_thick_4 rfl (lv_at hl 1 rfl) ?_
  refine lM_7 hx hb hK hI hp dX4_thick_5 ?_
  refine lv_i2d hx hb dX4_thick_6 ?_
  refine lv_ldc2d (v := 4602678819172646912) hx hb hown (hts _ q898) dX4_thick_7 ?_
  refine lv_aload_n hx hb dX4_thick_10 rfl (lv_at hl 0 rfl) ?_
  refine gM_26 hx hb hts hown hK hI dX4_thick_11 ?_
  refine lv_iload_n hx hb dX4_thick_14 rfl (lv_at hl 1 rfl) ?_
  refine lM_8 hx hb hK hI hp dX4_thick_15 ?_
  refine lv_i2d hx hb dX4_thick_16 ?_
  refine lv_dmul hx hb dX4_thick_17 (nn_half _) ?_
  refine lv_dadd hx hb dX4_thick_18 (nn_thick _ _) ?_
  have HE : M_thick S up = FP.dadd (FP.i2d (S.1 7 up.toNatClampNeg)) (FP.dmul (4602678819172646912 : UInt64) (FP.i2d (S.1 8 up.toNatClampNeg))) := by exact rfl
  exact rt_d hx hb hr hlocks hI hA hQ ⟨by rw [HE], rfl⟩ (Nat.zero_le _) (Nat.zero_le _) dX4_thick_19

def M_drill (S : MS) (up : Int32) : UInt64 × MS :=
  if M_isPiece S up then
    let S3 := mset S 29 0 0
    let S4 := mkset S3 up.toNatClampNeg ⟨M_thick S3 up, nn_thick _ _⟩
    ((S4.2 up.toNatClampNeg).1, S4)
  else
    let S2 := mset S 29 0 1
    (FP.dconst0, S2)
set_option maxHeartbeats 4000000 in
set_option maxRecDepth 100000 in
theorem cM_drill (G : GX) (ad : Nat → Nat) (S : MS) (up : Int32) {np nv : Nat} (hN : MNn S np nv) : FC G yX4_drill cX4_drill 2 (some .double) ({ frames := 2, cells := 0, slots := 0, locals := 43 }) [.ref (ad 0), .int up] (mW G.2.2.2 ad S) (pv (.double (M_drill S up).1) (mW G.2.2.2 ad (M_drill S up).2)) := by
  refine FC.go (lv := [(0, .ref (ad 0)), (1, .int up)]) (by decide) (Nat.le_of_ble_eq_true rfl) rfl (fun p e s m args below meth c A H locs ls Q hx hb hr hts hown hml hlocks hnm hK hE hI hA hl hQ => ?_)
  have hown : s.vm.findClass RX4 = some m.cls := hown
  refine lv_aload_n hx hb dX4_drill_0 rfl (lv_at hl 0 rfl) ?_
  refine lv_aload_n hx hb dX4_drill_1 rfl (lv_at hl 0 rfl) ?_
  refine lv_iload_n hx hb dX4_drill_2 rfl (lv_at hl 1 rfl) ?_
  refine cVv (rest := [.ref (ad 0)]) hx hb hml hts hown hK hE hI (cM_isPiece G ad S up) kM_109 ⟨Nat.le_of_ble_eq_true rfl, Nat.le_of_ble_eq_true rfl⟩ rfl rfl (kk := 4) (ii := 0) rfl rfl rfl hl.1 rfl (Nat.le_of_ble_eq_true rfl) dX4_drill_3 ⟨Nat.zero_le _, Nat.zero_le _⟩ (fun H locs hI => ?_)
  refine xb_eq (tgt := 13) hx hb dX4_drill_6 (by decide) (fun c1 => ?_) (fun c1 => ?_)
  · refine lv_iconst (v := 1) hx hb dX4_drill_13 (by decide) ?_
    obtain ⟨S2, eS2⟩ : ∃ z : MS, z = mset S 29 0 1 := ⟨_, rfl⟩
    refine cVv (rest := []) hx hb hml hts hown hK hE hI (cM_fails1 G ad S) kM_101 ⟨Nat.le_of_ble_eq_true rfl, Nat.le_of_ble_eq_true rfl⟩ rfl rfl (kk := 4) (ii := 0) rfl rfl rfl hl.1 rfl (Nat.le_of_ble_eq_true rfl) dX4_drill_14 ⟨Nat.zero_le _, Nat.zero_le _⟩ (fun H locs hI => ?_)
    rw [← eS2] at hI
    refine lv_if_eq (tgt := 22) hx hb dX4_drill_17 (by decide) (fun h => absurd h (by decide)) (fun _ => ?_)
    refine lv_dconst0 hx hb dX4_drill_20 ?_
    have HE : M_drill S up = (FP.dconst0, S2) := by subst eS2; exact (if_neg c1)
    exact rt_d hx hb hr hlocks hI hA hQ ⟨by rw [HE], by rw [HE]⟩ (Nat.zero_le _) (Nat.zero_le _) dX4_drill_21
  · refine lv_iconst (v := 0) hx hb dX4_drill_9 (by decide) ?_
    refine lv_goto (tgt := 14) hx hb dX4_drill_10 (by decide) ?_
    obtain ⟨S3, eS3⟩ : ∃ z : MS, z = mset S 29 0 0 := ⟨_, rfl⟩
    refine cVv (rest := []) hx hb hml hts hown hK hE hI (cM_fails0 G ad S) kM_101 ⟨Nat.le_of_ble_eq_true rfl, Nat.le_of_ble_eq_true rfl⟩ rfl rfl (kk := 4) (ii := 0) rfl rfl rfl hl.1 rfl (Nat.le_of_ble_eq_true rfl) dX4_drill_14 ⟨Nat.zero_le _, Nat.zero_le _⟩ (fun H locs hI => ?_)
    rw [← eS3] at hI
    refine lv_if_eq (tgt := 22) hx hb dX4_drill_17 (by decide) (fun _ => ?_) (fun h => absurd h (by decide))
    refine lv_aload_n hx hb dX4_drill_22 rfl (lv_at hl 0 rfl) ?_
    refine gM_44 hx hb hts hown hK hI dX4_drill_23 ?_
    refine lv_iload_n hx hb dX4_drill_26 rfl (lv_at hl 1 rfl) ?_
    refine lv_aload_n hx hb dX4_drill_27 rfl (lv_at hl 0 rfl) ?_
    refine lv_iload_n hx hb dX4_drill_28 rfl (lv_at hl 1 rfl) ?_
    refine cVv (rest := [.int up, .ref (ad 14)]) hx hb hml hts hown hK hE hI (cM_thick G ad S3 up (isPiece_in hN c1)) kM_117 ⟨Nat.le_of_ble_eq_true rfl, Nat.le_of_ble_eq_true rfl⟩ rfl rfl (kk := 4) (ii := 0) rfl rfl rfl hl.1 rfl (Nat.le_of_ble_eq_true rfl) dX4_drill_29 ⟨Nat.zero_le _, Nat.zero_le _⟩ (fun H locs hI => ?_)
    obtain ⟨S4, eS4⟩ : ∃ z : MS, z = mkset S3 up.toNatClampNeg ⟨M_thick S3 up, nn_thick _ _⟩ := ⟨_, rfl⟩
    refine sM_14 (x := ⟨M_thick S3 up, nn_thick _ _⟩) hx hb hK hI (isPiece_in hN c1) eS4 dX4_drill_32 (fun H locs hI => ?_)
    refine lv_aload_n hx hb dX4_drill_33 rfl (lv_at hl 0 rfl) ?_
    refine gM_44 hx hb hts hown hK hI dX4_drill_34 ?_
    refine lv_iload_n hx hb dX4_drill_37 rfl (lv_at hl 1 rfl) ?_
    refine lM_14 hx hb hK hI (isPiece_in hN c1) dX4_drill_38 ?_
    have HE : M_drill S up = ((S4.2 up.toNatClampNeg).1, S4) := by subst eS4 eS3; exact (if_pos c1)
    exact rt_d hx hb hr hlocks hI hA hQ ⟨by rw [HE], by rw [HE]⟩ (Nat.zero_le _) (Nat.zero_le _) dX4_drill_39

def M_weight (S : MS) (uv : Int32) : Int32 :=
  (S.1 17 uv.toNatClampNeg) + (S.1 24 uv.toNatClampNeg)
set_option maxHeartbeats 4000000 in
set_option maxRecDepth 100000 in
theorem cM_weight (G : GX) (ad : Nat → Nat) (S : MS) (uv : Int32) (hv : vp_in uv 16) : FC G yX4_weight cX4_weight 2 (some .int) ({ frames := 0, cells := 0, slots := 0, locals := 0 }) [.ref (ad 0), .int uv] (mW G.2.2.2 ad S) (pv (.int (M_weight S uv)) (mW G.2.2.2 ad S)) := by
  refine FC.go (lv := [(0, .ref (ad 0)), (1, .int uv)]) (by decide) (Nat.le_of_ble_eq_true rfl) rfl (fun p e s m args below meth c A H locs ls Q hx hb hr hts hown hml hlocks hnm hK hE hI hA hl hQ => ?_)
  have hown : s.vm.findClass RX4 = some m.cls := hown
  refine lv_aload_n hx hb dX4_weight_0 rfl (lv_at hl 0 rfl) ?_
  refine gM_51 hx hb hts hown hK hI dX4_weight_1 ?_
  refine lv_iload_n hx hb dX4_weight_4 rfl (lv_at hl 1 rfl) ?_
  refine lM_17 hx hb hK hI hv dX4_weight_5 ?_
  refine lv_aload_n hx hb dX4_weight_6 rfl (lv_at hl 0 rfl) ?_
  refine gM_73 hx hb hts hown hK hI dX4_weight_7 ?_
  refine lv_iload_n hx hb dX4_weight_10 rfl (lv_at hl 1 rfl) ?_
  refine lM_24 hx hb hK hI hv dX4_weight_11 ?_
  refine lv_iadd hx hb dX4_weight_12 ?_
  have HE : M_weight S uv = (S.1 17 uv.toNatClampNeg) + (S.1 24 uv.toNatClampNeg) := by exact rfl
  exact rt_i hx hb hr hlocks hI hA hQ ⟨by rw [HE], rfl⟩ (Nat.zero_le _) (Nat.zero_le _) dX4_weight_13

def M_order (S : MS) (ug : Int32) (uk : Int32) : Int32 × MS :=
  if M_isGoods S ug then
    if M_isIn S uk 1 1000000 then
      if ((S.1 28 ug.toNatClampNeg) + uk) ≤ 10000000 then
        let S4 := mset S 29 0 0
        let S5 := mset S4 28 ug.toNatClampNeg ((S4.1 28 ug.toNatClampNeg) + uk)
        (S5.1 28 ug.toNatClampNeg, S5)
      else
        let S6 := mset S 29 0 3
        (0, S6)
    else
      let S7 := mset S 29 0 2
      (0, S7)
  else
    let S8 := mset S 29 0 1
    (0, S8)
set_option maxHeartbeats 4000000 in
set_option maxRecDepth 100000 in
theorem cM_order (G : GX) (ad : Nat → Nat) (S : MS) (ug : Int32) (uk : Int32) {np nv : Nat} (hN : MNn S np nv) : FC G yX4_order cX4_order 4 (some .int) ({ frames := 2, cells := 0, slots := 0, locals := 42 }) [.ref (ad 0), .int ug, .int uk] (mW G.2.2.2 ad S) (pv (.int (M_order S ug uk).1) (mW G.2.2.2 ad (M_order S ug uk).2)) := by
  refine FC.go (lv := [(0, .ref (ad 0)), (1, .int ug), (2, .int uk)]) (by decide) (Nat.le_of_ble_eq_true rfl) rfl (fun p e s m args below meth c A H locs ls Q hx hb hr hts hown hml hlocks hnm hK hE hI hA hl hQ => ?_)
  have hown : s.vm.findClass RX4 = some m.cls := hown
  refine lv_iload_n hx hb dX4_order_0 rfl (lv_at hl 2 rfl) ?_
  refine lv_iconst (v := 1) hx hb dX4_order_1 (by decide) ?_
  refine lv_ldc (v := 1000000) hx hb hown (hts _ q956) dX4_order_2 ?_
  refine cSv (rest := []) hx hb hml hts hown hK hE hI (cM_isIn G ad S uk 1 1000000) kM_94 ⟨Nat.le_of_ble_eq_true rfl, Nat.le_of_ble_eq_true rfl⟩ rfl rfl hl.1 rfl (Nat.le_of_ble_eq_true rfl) dX4_order_4 ⟨Nat.zero_le _, Nat.zero_le _⟩ (fun H locs hI => ?_)
  refine lv_istore_n (lv' := [(3, .int (bI (M_isIn S uk 1 1000000))), (0, .ref (ad 0)), (1, .int ug), (2, .int uk)]) hx hb dX4_order_7 rfl hl (by decide) rfl (fun ls hl => ?_)
  refine lv_aload_n hx hb dX4_order_8 rfl (lv_at hl 1 rfl) ?_
  refine lv_iload_n hx hb dX4_order_9 rfl (lv_at hl 2 rfl) ?_
  refine cSv (rest := [.ref (ad 0)]) hx hb hml hts hown hK hE hI (cM_isGoods G ad S ug) kM_126 ⟨Nat.le_of_ble_eq_true rfl, Nat.le_of_ble_eq_true rfl⟩ rfl rfl hl.1 rfl (Nat.le_of_ble_eq_true rfl) dX4_order_10 ⟨Nat.zero_le _, Nat.zero_le _⟩ (fun H locs hI => ?_)
  refine xb_ne (tgt := 20) hx hb dX4_order_13 (by decide) (fun c1 => ?_) (fun c1 => ?_)
  · refine lv_iload_n hx hb dX4_order_20 rfl (lv_at hl 0 rfl) ?_
    refine xb_ne (tgt := 28) hx hb dX4_order_21 (by decide) (fun c2 => ?_) (fun c2 => ?_)
    · refine lv_aload_n hx hb dX4_order_28 rfl (lv_at hl 1 rfl) ?_
      refine gM_85 hx hb hts hown hK hI dX4_order_29 ?_
      refine lv_iload_n hx hb dX4_order_32 rfl (lv_at hl 2 rfl) ?_
      refine lM_28 hx hb hK hI (isGoods_in c1) dX4_order_33 ?_
      refine lv_iload_n hx hb dX4_order_34 rfl (lv_at hl 3 rfl) ?_
      refine lv_iadd hx hb dX4_order_35 ?_
      refine lv_ldc (v := 10000000) hx hb hown (hts _ q957) dX4_order_36 ?_
      refine lv_icmp_le (tgt := 45) hx hb dX4_order_38 (by decide) (fun c3 => ?_) (fun c3 => ?_)
      · refine lv_iconst (v := 0) hx hb dX4_order_45 (by decide) ?_
        obtain ⟨S4, eS4⟩ : ∃ z : MS, z = mset S 29 0 0 := ⟨_, rfl⟩
        refine cVv (rest := []) hx hb hml hts hown hK hE hI (cM_fails0 G ad S) kM_101 ⟨Nat.le_of_ble_eq_true rfl, Nat.le_of_ble_eq_true rfl⟩ rfl rfl (kk := 4) (ii := 0) rfl rfl rfl hl.1 rfl (Nat.le_of_ble_eq_true rfl) dX4_order_46 ⟨Nat.zero_le _, Nat.zero_le _⟩ (fun H locs hI => ?_)
        rw [← eS4] at hI
        refine lv_if_eq (tgt := 54) hx hb dX4_order_49 (by decide) (fun _ => ?_) (fun h => absurd h (by decide))
        refine lv_aload_n hx hb dX4_order_54 rfl (lv_at hl 1 rfl) ?_
        refine gM_85 hx hb hts hown hK hI dX4_order_55 ?_
        refine lv_iload_n hx hb dX4_order_58 rfl (lv_at hl 2 rfl) ?_
        refine lv_dup2_11 hx hb dX4_order_59 rfl rfl ?_
        refine lM_28 hx hb hK hI (isGoods_in c1) dX4_order_60 ?_
        refine lv_iload_n hx hb dX4_order_61 rfl (lv_at hl 3 rfl) ?_
        refine lv_iadd hx hb dX4_order_62 ?_
        obtain ⟨S5, eS5⟩ : ∃ z : MS, z = mset S4 28 ug.toNatClampNeg ((S4.1 28 ug.toNatClampNeg) + uk) := ⟨_, rfl⟩
        refine sM_28 hx hb hK hI (isGoods_in c1) eS5 dX4_order_63 (fun H locs hI => ?_)
        refine lv_aload_n hx hb dX4_order_64 rfl (lv_at hl 1 rfl) ?_
        refine gM_85 hx hb hts hown hK hI dX4_order_65 ?_
        refine lv_iload_n hx hb dX4_order_68 rfl (lv_at hl 2 rfl) ?_
        refine lM_28 hx hb hK hI (isGoods_in c1) dX4_order_69 ?_
        have HE : M_order S ug uk = (S5.1 28 ug.toNatClampNeg, S5) := by subst eS5 eS4; exact (if_pos c1).trans ((if_pos c2).trans ((if_pos c3)))
        exact rt_i hx hb hr hlocks hI hA hQ ⟨by rw [HE], by rw [HE]⟩ (Nat.zero_le _) (Nat.zero_le _) dX4_order_70
      · refine lv_iconst (v := 3) hx hb dX4_order_41 (by decide) ?_
        refine lv_goto (tgt := 46) hx hb dX4_order_42 (by decide) ?_
        obtain ⟨S6, eS6⟩ : ∃ z : MS, z = mset S 29 0 3 := ⟨_, rfl⟩
        refine cVv (rest := []) hx hb hml hts hown hK hE hI (cM_fails3 G ad S) kM_101 ⟨Nat.le_of_ble_eq_true rfl, Nat.le_of_ble_eq_true rfl⟩ rfl rfl (kk := 4) (ii := 0) rfl rfl rfl hl.1 rfl (Nat.le_of_ble_eq_true rfl) dX4_order_46 ⟨Nat.zero_le _, Nat.zero_le _⟩ (fun H locs hI => ?_)
        rw [← eS6] at hI
        refine lv_if_eq (tgt := 54) hx hb dX4_order_49 (by decide) (fun h => absurd h (by decide)) (fun _ => ?_)
        refine lv_iconst (v := 0) hx hb dX4_order_52 (by decide) ?_
        have HE : M_order S ug uk = (0, S6) := by subst eS6; exact (if_pos c1).trans ((if_pos c2).trans ((if_neg c3)))
        exact rt_i hx hb hr hlocks hI hA hQ ⟨by rw [HE], by rw [HE]⟩ (Nat.zero_le _) (Nat.zero_le _) dX4_order_53
    · refine lv_iconst (v := 2) hx hb dX4_order_24 (by decide) ?_
      refine lv_goto (tgt := 46) hx hb dX4_order_25 (by decide) ?_
      obtain ⟨S7, eS7⟩ : ∃ z : MS, z = mset S 29 0 2 := ⟨_, rfl⟩
      refine cVv (rest := []) hx hb hml hts hown hK hE hI (cM_fails2 G ad S) kM_101 ⟨Nat.le_of_ble_eq_true rfl, Nat.le_of_ble_eq_true rfl⟩ rfl rfl (kk := 4) (ii := 0) rfl rfl rfl hl.1 rfl (Nat.le_of_ble_eq_true rfl) dX4_order_46 ⟨Nat.zero_le _, Nat.zero_le _⟩ (fun H locs hI => ?_)
      rw [← eS7] at hI
      refine lv_if_eq (tgt := 54) hx hb dX4_order_49 (by decide) (fun h => absurd h (by decide)) (fun _ => ?_)
      refine lv_iconst (v := 0) hx hb dX4_order_52 (by decide) ?_
      have HE : M_order S ug uk = (0, S7) := by subst eS7; exact (if_pos c1).trans ((if_neg c2))
      exact rt_i hx hb hr hlocks hI hA hQ ⟨by rw [HE], by rw [HE]⟩ (Nat.zero_le _) (Nat.zero_le _) dX4_order_53
  · refine lv_iconst (v := 1) hx hb dX4_order_16 (by decide) ?_
    refine lv_goto (tgt := 46) hx hb dX4_order_17 (by decide) ?_
    obtain ⟨S8, eS8⟩ : ∃ z : MS, z = mset S 29 0 1 := ⟨_, rfl⟩
    refine cVv (rest := []) hx hb hml hts hown hK hE hI (cM_fails1 G ad S) kM_101 ⟨Nat.le_of_ble_eq_true rfl, Nat.le_of_ble_eq_true rfl⟩ rfl rfl (kk := 4) (ii := 0) rfl rfl rfl hl.1 rfl (Nat.le_of_ble_eq_true rfl) dX4_order_46 ⟨Nat.zero_le _, Nat.zero_le _⟩ (fun H locs hI => ?_)
    rw [← eS8] at hI
    refine lv_if_eq (tgt := 54) hx hb dX4_order_49 (by decide) (fun h => absurd h (by decide)) (fun _ => ?_)
    refine lv_iconst (v := 0) hx hb dX4_order_52 (by decide) ?_
    have HE : M_order S ug uk = (0, S8) := by subst eS8; exact (if_neg c1)
    exact rt_i hx hb hr hlocks hI hA hQ ⟨by rw [HE], by rw [HE]⟩ (Nat.zero_le _) (Nat.zero_le _) dX4_order_53

abbrev M_isThere (S : MS) (uv : Int32) : Prop :=
  let x1 := if (S.1 22 uv.toNatClampNeg) = 0 then 0 else (S.1 3 0)
  (S.1 21 uv.toNatClampNeg) = x1
set_option maxHeartbeats 4000000 in
set_option maxRecDepth 100000 in
theorem cM_isThere (G : GX) (ad : Nat → Nat) (S : MS) (uv : Int32) (hv : vp_in uv 16) : FC G yX4_isThere cX4_isThere 2 (some .boolean) ({ frames := 0, cells := 0, slots := 0, locals := 0 }) [.ref (ad 0), .int uv] (mW G.2.2.2 ad S) (pv (.int (bI (M_isThere S uv))) (mW G.2.2.2 ad S)) := by
  refine FC.go (lv := [(0, .ref (ad 0)), (1, .int uv)]) (by decide) (Nat.le_of_ble_eq_true rfl) rfl (fun p e s m args below meth c A H locs ls Q hx hb hr hts hown hml hlocks hnm hK hE hI hA hl hQ => ?_)
  have hown : s.vm.findClass RX4 = some m.cls := hown
  refine lv_aload_n hx hb dX4_isThere_0 rfl (lv_at hl 0 rfl) ?_
  refine gM_63 hx hb hts hown hK hI dX4_isThere_1 ?_
  refine lv_iload_n hx hb dX4_isThere_4 rfl (lv_at hl 1 rfl) ?_
  refine lM_21 hx hb hK hI hv dX4_isThere_5 ?_
  refine lv_aload_n hx hb dX4_isThere_6 rfl (lv_at hl 0 rfl) ?_
  refine gM_66 hx hb hts hown hK hI dX4_isThere_7 ?_
  refine lv_iload_n hx hb dX4_isThere_10 rfl (lv_at hl 1 rfl) ?_
  refine lM_22 hx hb hK hI hv dX4_isThere_11 ?_
  have hJ2 : ∀ (x1 : Int32), (x1 = if (S.1 22 uv.toNatClampNeg) = 0 then 0 else (S.1 3 0)) → W p G.1 e ({ frames := 0, cells := 0, slots := 0, locals := 0 }) s m args below meth c H locs 0 0 Q (F0 m 23 ls [.int x1, .int (S.1 21 uv.toNatClampNeg)]) := by
    intro x1 ex1
    have hJ3 : W p G.1 e ({ frames := 0, cells := 0, slots := 0, locals := 0 }) s m args below meth c H locs 0 0 Q (F0 m 31 ls [.int (bI ((S.1 21 uv.toNatClampNeg) = x1))]) := by
      exact rt_z hx hb hr hlocks bI_narrow hI hA hQ ⟨by subst ex1; rfl, rfl⟩ (Nat.zero_le _) (Nat.zero_le _) dX4_isThere_31
    refine lv_icmp_ne (tgt := 30) hx hb dX4_isThere_23 (by decide) (fun c4 => ?_) (fun c4 => ?_)
    · refine lv_iconst (v := 0) hx hb dX4_isThere_30 (by decide) ?_
      have eb5 : (0 : Int32) = bI ((S.1 21 uv.toNatClampNeg) = x1) := (bI_f c4).symm
      rw [eb5]
      exact hJ3
    · refine lv_iconst (v := 1) hx hb dX4_isThere_26 (by decide) ?_
      refine lv_goto (tgt := 31) hx hb dX4_isThere_27 (by decide) ?_
      have eb6 : (1 : Int32) = bI ((S.1 21 uv.toNatClampNeg) = x1) := (bI_t c4).symm
      rw [eb6]
      exact hJ3
  refine lv_if_eq (tgt := 22) hx hb dX4_isThere_12 (by decide) (fun c7 => ?_) (fun c7 => ?_)
  · refine lv_iconst (v := 0) hx hb dX4_isThere_22 (by decide) ?_
    exact hJ2 0 (by exact (if_pos c7).symm)
  · refine lv_aload_n hx hb dX4_isThere_15 rfl (lv_at hl 0 rfl) ?_
    refine gM_91 hx hb hts hown hK hI dX4_isThere_16 ?_
    refine lv_goto (tgt := 23) hx hb dX4_isThere_19 (by decide) ?_
    exact hJ2 (S.1 3 0) (by exact (if_neg c7).symm)

def M_nextPiece (S : MS) (uv : Int32) : Int32 :=
  let x1 := if (S.1 22 uv.toNatClampNeg) = 0 then ((S.1 21 uv.toNatClampNeg) - 1) else (S.1 21 uv.toNatClampNeg)
  x1
set_option maxHeartbeats 4000000 in
set_option maxRecDepth 100000 in
theorem cM_nextPiece (G : GX) (ad : Nat → Nat) (S : MS) (uv : Int32) (hv : vp_in uv 16) : FC G yX4_nextPiece cX4_nextPiece 2 (some .int) ({ frames := 0, cells := 0, slots := 0, locals := 0 }) [.ref (ad 0), .int uv] (mW G.2.2.2 ad S) (pv (.int (M_nextPiece S uv)) (mW G.2.2.2 ad S)) := by
  refine FC.go (lv := [(0, .ref (ad 0)), (1, .int uv)]) (by decide) (Nat.le_of_ble_eq_true rfl) rfl (fun p e s m args below meth c A H locs ls Q hx hb hr hts hown hml hlocks hnm hK hE hI hA hl hQ => ?_)
  have hown : s.vm.findClass RX4 = some m.cls := hown
  refine lv_aload_n hx hb dX4_nextPiece_0 rfl (lv_at hl 0 rfl) ?_
  refine gM_66 hx hb hts hown hK hI dX4_nextPiece_1 ?_
  refine lv_iload_n hx hb dX4_nextPiece_4 rfl (lv_at hl 1 rfl) ?_
  refine lM_22 hx hb hK hI hv dX4_nextPiece_5 ?_
  have hJ2 : ∀ (x1 : Int32), (x1 = if (S.1 22 uv.toNatClampNeg) = 0 then ((S.1 21 uv.toNatClampNeg) - 1) else (S.1 21 uv.toNatClampNeg)) → W p G.1 e ({ frames := 0, cells := 0, slots := 0, locals := 0 }) s m args below meth c H locs 0 0 Q (F0 m 26 ls [.int x1]) := by
    intro x1 ex1
    have HE : M_nextPiece S uv = x1 := by subst ex1; exact rfl
    exact rt_i hx hb hr hlocks hI hA hQ ⟨by rw [HE], rfl⟩ (Nat.zero_le _) (Nat.zero_le _) dX4_nextPiece_26
  refine lv_if_eq (tgt := 18) hx hb dX4_nextPiece_6 (by decide) (fun c3 => ?_) (fun c3 => ?_)
  · refine lv_aload_n hx hb dX4_nextPiece_18 rfl (lv_at hl 0 rfl) ?_
    refine gM_63 hx hb hts hown hK hI dX4_nextPiece_19 ?_
    refine lv_iload_n hx hb dX4_nextPiece_22 rfl (lv_at hl 1 rfl) ?_
    refine lM_21 hx hb hK hI hv dX4_nextPiece_23 ?_
    refine lv_iconst (v := 1) hx hb dX4_nextPiece_24 (by decide) ?_
    refine lv_isub hx hb dX4_nextPiece_25 ?_
    exact hJ2 ((S.1 21 uv.toNatClampNeg) - 1) (by exact (if_pos c3).symm)
  · refine lv_aload_n hx hb dX4_nextPiece_9 rfl (lv_at hl 0 rfl) ?_
    refine gM_63 hx hb hts hown hK hI dX4_nextPiece_10 ?_
    refine lv_iload_n hx hb dX4_nextPiece_13 rfl (lv_at hl 1 rfl) ?_
    refine lM_21 hx hb hK hI hv dX4_nextPiece_14 ?_
    refine lv_goto (tgt := 26) hx hb dX4_nextPiece_15 (by decide) ?_
    exact hJ2 (S.1 21 uv.toNatClampNeg) (by exact (if_neg c3).symm)

def M_minute (S : MS) : Int32 × MS :=
  let S1 := mset S 29 0 0
  (S1.1 0 0, S1)
set_option maxHeartbeats 4000000 in
set_option maxRecDepth 100000 in
theorem cM_minute (G : GX) (ad : Nat → Nat) (S : MS) : FC G yX4_minute cX4_minute 1 (some .int) ({ frames := 0, cells := 0, slots := 0, locals := 0 }) [.ref (ad 0)] (mW G.2.2.2 ad S) (pv (.int (M_minute S).1) (mW G.2.2.2 ad (M_minute S).2)) := by
  refine FC.go (lv := [(0, .ref (ad 0))]) (by decide) (Nat.le_of_ble_eq_true rfl) rfl (fun p e s m args below meth c A H locs ls Q hx hb hr hts hown hml hlocks hnm hK hE hI hA hl hQ => ?_)
  have hown : s.vm.findClass RX4 = some m.cls := hown
  refine lv_aload_n hx hb dX4_minute_0 rfl (lv_at hl 0 rfl) ?_
  refine lv_iconst (v := 0) hx hb dX4_minute_1 (by decide) ?_
  obtain ⟨S1, eS1⟩ : ∃ z : MS, z = mset S 29 0 0 := ⟨_, rfl⟩
  refine pM_88 hx hb hts hown hK hI eS1 dX4_minute_2 (fun H locs hI => ?_)
  refine lv_aload_n hx hb dX4_minute_5 rfl (lv_at hl 0 rfl) ?_
  refine gM_167 hx hb hts hown hK hI dX4_minute_6 ?_
  have HE : M_minute S = (S1.1 0 0, S1) := by subst eS1; exact rfl
  exact rt_i hx hb hr hlocks hI hA hQ ⟨by rw [HE], by rw [HE]⟩ (Nat.zero_le _) (Nat.zero_le _) dX4_minute_9

def M_missing (S : MS) (ug : Int32) : Int32 :=
  let x1 := if (S.1 28 ug.toNatClampNeg) ≤ (S.1 27 ug.toNatClampNeg) then 0 else ((S.1 28 ug.toNatClampNeg) - (S.1 27 ug.toNatClampNeg))
  x1
set_option maxHeartbeats 4000000 in
set_option maxRecDepth 100000 in
theorem cM_missing (G : GX) (ad : Nat → Nat) (S : MS) (ug : Int32) (hg : vp_in ug 3) : FC G yX4_missing cX4_missing 2 (some .int) ({ frames := 0, cells := 0, slots := 0, locals := 0 }) [.ref (ad 0), .int ug] (mW G.2.2.2 ad S) (pv (.int (M_missing S ug)) (mW G.2.2.2 ad S)) := by
  refine FC.go (lv := [(0, .ref (ad 0)), (1, .int ug)]) (by decide) (Nat.le_of_ble_eq_true rfl) rfl (fun p e s m args below meth c A H locs ls Q hx hb hr hts hown hml hlocks hnm hK hE hI hA hl hQ => ?_)
  have hown : s.vm.findClass RX4 = some m.cls := hown
  refine lv_aload_n hx hb dX4_missing_0 rfl (lv_at hl 0 rfl) ?_
  refine gM_85 hx hb hts hown hK hI dX4_missing_1 ?_
  refine lv_iload_n hx hb dX4_missing_4 rfl (lv_at hl 1 rfl) ?_
  refine lM_28 hx hb hK hI hg dX4_missing_5 ?_
  refine lv_aload_n hx hb dX4_missing_6 rfl (lv_at hl 0 rfl) ?_
  refine gM_82 hx hb hts hown hK hI dX4_missing_7 ?_
  refine lv_iload_n hx hb dX4_missing_10 rfl (lv_at hl 1 rfl) ?_
  refine lM_27 hx hb hK hI hg dX4_missing_11 ?_
  have hJ2 : ∀ (x1 : Int32), (x1 = if (S.1 28 ug.toNatClampNeg) ≤ (S.1 27 ug.toNatClampNeg) then 0 else ((S.1 28 ug.toNatClampNeg) - (S.1 27 ug.toNatClampNeg))) → W p G.1 e ({ frames := 0, cells := 0, slots := 0, locals := 0 }) s m args below meth c H locs 0 0 Q (F0 m 32 ls [.int x1]) := by
    intro x1 ex1
    have HE : M_missing S ug = x1 := by subst ex1; exact rfl
    exact rt_i hx hb hr hlocks hI hA hQ ⟨by rw [HE], rfl⟩ (Nat.zero_le _) (Nat.zero_le _) dX4_missing_32
  refine lv_icmp_le (tgt := 31) hx hb dX4_missing_12 (by decide) (fun c3 => ?_) (fun c3 => ?_)
  · refine lv_iconst (v := 0) hx hb dX4_missing_31 (by decide) ?_
    exact hJ2 0 (by exact (if_pos c3).symm)
  · refine lv_aload_n hx hb dX4_missing_15 rfl (lv_at hl 0 rfl) ?_
    refine gM_85 hx hb hts hown hK hI dX4_missing_16 ?_
    refine lv_iload_n hx hb dX4_missing_19 rfl (lv_at hl 1 rfl) ?_
    refine lM_28 hx hb hK hI hg dX4_missing_20 ?_
    refine lv_aload_n hx hb dX4_missing_21 rfl (lv_at hl 0 rfl) ?_
    refine gM_82 hx hb hts hown hK hI dX4_missing_22 ?_
    refine lv_iload_n hx hb dX4_missing_25 rfl (lv_at hl 1 rfl) ?_
    refine lM_27 hx hb hK hI hg dX4_missing_26 ?_
    refine lv_isub hx hb dX4_missing_27 ?_
    refine lv_goto (tgt := 32) hx hb dX4_missing_28 (by decide) ?_
    exact hJ2 ((S.1 28 ug.toNatClampNeg) - (S.1 27 ug.toNatClampNeg)) (by exact (if_neg c3).symm)

def M_kilosAnew (S : MS) (ug : Int32) : Int32 × MS :=
  if M_isGoods S ug then
    let S3 := mset S 29 0 0
    (S3.1 26 ug.toNatClampNeg, S3)
  else
    let S2 := mset S 29 0 1
    (0, S2)
set_option maxHeartbeats 4000000 in
set_option maxRecDepth 100000 in
theorem cM_kilosAnew (G : GX) (ad : Nat → Nat) (S : MS) (ug : Int32) {np nv : Nat} (hN : MNn S np nv) : FC G yX4_kilosAnew cX4_kilosAnew 2 (some .int) ({ frames := 2, cells := 0, slots := 0, locals := 42 }) [.ref (ad 0), .int ug] (mW G.2.2.2 ad S) (pv (.int (M_kilosAnew S ug).1) (mW G.2.2.2 ad (M_kilosAnew S ug).2)) := by
  refine FC.go (lv := [(0, .ref (ad 0)), (1, .int ug)]) (by decide) (Nat.le_of_ble_eq_true rfl) rfl (fun p e s m args below meth c A H locs ls Q hx hb hr hts hown hml hlocks hnm hK hE hI hA hl hQ => ?_)
  have hown : s.vm.findClass RX4 = some m.cls := hown
  refine lv_aload_n hx hb dX4_kilosAnew_0 rfl (lv_at hl 0 rfl) ?_
  refine lv_iload_n hx hb dX4_kilosAnew_1 rfl (lv_at hl 1 rfl) ?_
  refine cSv (rest := [.ref (ad 0)]) hx hb hml hts hown hK hE hI (cM_isGoods G ad S ug) kM_126 ⟨Nat.le_of_ble_eq_true rfl, Nat.le_of_ble_eq_true rfl⟩ rfl rfl hl.1 rfl (Nat.le_of_ble_eq_true rfl) dX4_kilosAnew_2 ⟨Nat.zero_le _, Nat.zero_le _⟩ (fun H locs hI => ?_)
  refine xb_eq (tgt := 12) hx hb dX4_kilosAnew_5 (by decide) (fun c1 => ?_) (fun c1 => ?_)
  · refine lv_iconst (v := 1) hx hb dX4_kilosAnew_12 (by decide) ?_
    obtain ⟨S2, eS2⟩ : ∃ z : MS, z = mset S 29 0 1 := ⟨_, rfl⟩
    refine cVv (rest := []) hx hb hml hts hown hK hE hI (cM_fails1 G ad S) kM_101 ⟨Nat.le_of_ble_eq_true rfl, Nat.le_of_ble_eq_true rfl⟩ rfl rfl (kk := 4) (ii := 0) rfl rfl rfl hl.1 rfl (Nat.le_of_ble_eq_true rfl) dX4_kilosAnew_13 ⟨Nat.zero_le _, Nat.zero_le _⟩ (fun H locs hI => ?_)
    rw [← eS2] at hI
    refine lv_if_eq (tgt := 23) hx hb dX4_kilosAnew_16 (by decide) (fun h => absurd h (by decide)) (fun _ => ?_)
    refine lv_iconst (v := 0) hx hb dX4_kilosAnew_19 (by decide) ?_
    refine lv_goto (tgt := 29) hx hb dX4_kilosAnew_20 (by decide) ?_
    have HE : M_kilosAnew S ug = (0, S2) := by subst eS2; exact (if_neg c1)
    exact rt_i hx hb hr hlocks hI hA hQ ⟨by rw [HE], by rw [HE]⟩ (Nat.zero_le _) (Nat.zero_le _) dX4_kilosAnew_29
  · refine lv_iconst (v := 0) hx hb dX4_kilosAnew_8 (by decide) ?_
    refine lv_goto (tgt := 13) hx hb dX4_kilosAnew_9 (by decide) ?_
    obtain ⟨S3, eS3⟩ : ∃ z : MS, z = mset S 29 0 0 := ⟨_, rfl⟩
    refine cVv (rest := []) hx hb hml hts hown hK hE hI (cM_fails0 G ad S) kM_101 ⟨Nat.le_of_ble_eq_true rfl, Nat.le_of_ble_eq_true rfl⟩ rfl rfl (kk := 4) (ii := 0) rfl rfl rfl hl.1 rfl (Nat.le_of_ble_eq_true rfl) dX4_kilosAnew_13 ⟨Nat.zero_le _, Nat.zero_le _⟩ (fun H locs hI => ?_)
    rw [← eS3] at hI
    refine lv_if_eq (tgt := 23) hx hb dX4_kilosAnew_16 (by decide) (fun _ => ?_) (fun h => absurd h (by decide))
    refine lv_aload_n hx hb dX4_kilosAnew_23 rfl (lv_at hl 0 rfl) ?_
    refine gM_79 hx hb hts hown hK hI dX4_kilosAnew_24 ?_
    refine lv_iload_n hx hb dX4_kilosAnew_27 rfl (lv_at hl 1 rfl) ?_
    refine lM_26 hx hb hK hI (isGoods_in c1) dX4_kilosAnew_28 ?_
    have HE : M_kilosAnew S ug = (S3.1 26 ug.toNatClampNeg, S3) := by subst eS3; exact (if_pos c1)
    exact rt_i hx hb hr hlocks hI hA hQ ⟨by rw [HE], by rw [HE]⟩ (Nat.zero_le _) (Nat.zero_le _) dX4_kilosAnew_29

def M_bearsBy (S : MS) (up : Int32) (ut : UInt64) : Int32 :=
  if M_isWater S up then
    let x2 := if (S.1 11 up.toNatClampNeg) = 0 then FP.dconst1 else (if (S.1 11 up.toNatClampNeg) = 1 then (4604930618986332160 : UInt64) else (4602678819172646912 : UInt64))
    FP.d2i (FP.dmul (FP.dmul (FP.dmul (4585925428558828667 : UInt64) ut) ut) x2)
  else
    let x6 := if (S.1 10 up.toNatClampNeg) < 100 then 0 else 60000
    x6
set_option maxHeartbeats 4000000 in
set_option maxRecDepth 100000 in
theorem cM_bearsBy (G : GX) (ad : Nat → Nat) (S : MS) (up : Int32) (ut : UInt64) (hp : vp_in up 10) (ht : vf_n64 ut) : FC G yX4_bearsBy cX4_bearsBy 4 (some .int) ({ frames := 1, cells := 0, slots := 0, locals := 21 }) [.ref (ad 0), .int up, .double ut] (mW G.2.2.2 ad S) (pv (.int (M_bearsBy S up ut)) (mW G.2.2.2 ad S)) := by
  refine FC.go (lv := [(0, .ref (ad 0)), (1, .int up), (2, .double ut)]) (by decide) (Nat.le_of_ble_eq_true rfl) rfl (fun p e s m args below meth c A H locs ls Q hx hb hr hts hown hml hlocks hnm hK hE hI hA hl hQ => ?_)
  have hown : s.vm.findClass RX4 = some m.cls := hown
  refine lv_aload_n hx hb dX4_bearsBy_0 rfl (lv_at hl 0 rfl) ?_
  refine lv_iload_n hx hb dX4_bearsBy_1 rfl (lv_at hl 1 rfl) ?_
  refine cVv (rest := []) hx hb hml hts hown hK hE hI (cM_isWater G ad S up hp) kM_112 ⟨Nat.le_of_ble_eq_true rfl, Nat.le_of_ble_eq_true rfl⟩ rfl rfl (kk := 4) (ii := 0) rfl rfl rfl hl.1 rfl (Nat.le_of_ble_eq_true rfl) dX4_bearsBy_2 ⟨Nat.zero_le _, Nat.zero_le _⟩ (fun H locs hI => ?_)
  refine xb_ne (tgt := 26) hx hb dX4_bearsBy_5 (by decide) (fun c1 => ?_) (fun c1 => ?_)
  · refine lv_ldc2d (v := 4585925428558828667) hx hb hown (hts _ q1003) dX4_bearsBy_26 ?_
    refine lv_dload_n hx hb dX4_bearsBy_29 rfl (lv_at hl 2 rfl) ?_
    refine lv_dmul hx hb dX4_bearsBy_30 (nn_b1 ht) ?_
    refine lv_dload_n hx hb dX4_bearsBy_31 rfl (lv_at hl 2 rfl) ?_
    refine lv_dmul hx hb dX4_bearsBy_32 (nn_b2 ht) ?_
    refine lv_aload_n hx hb dX4_bearsBy_33 rfl (lv_at hl 0 rfl) ?_
    refine gM_35 hx hb hts hown hK hI dX4_bearsBy_34 ?_
    refine lv_iload_n hx hb dX4_bearsBy_37 rfl (lv_at hl 1 rfl) ?_
    refine lM_11 hx hb hK hI hp dX4_bearsBy_38 ?_
    have hJ3 : ∀ (x2 : UInt64), (x2 = if (S.1 11 up.toNatClampNeg) = 0 then FP.dconst1 else (if (S.1 11 up.toNatClampNeg) = 1 then (4604930618986332160 : UInt64) else (4602678819172646912 : UInt64))) → W p G.1 e ({ frames := 1, cells := 0, slots := 0, locals := 21 }) s m args below meth c H locs 0 0 Q (F0 m 65 ls [.double x2, .double (FP.dmul (FP.dmul (4585925428558828667 : UInt64) ut) ut)]) := by
      intro x2 ex2
      refine lv_dmul hx hb dX4_bearsBy_65 (nn_b3 (nn_b2 ht) (nn_sv ex2)) ?_
      refine lv_d2i hx hb dX4_bearsBy_66 ?_
      have HE : M_bearsBy S up ut = FP.d2i (FP.dmul (FP.dmul (FP.dmul (4585925428558828667 : UInt64) ut) ut) x2) := by subst ex2; exact (if_pos c1)
      exact rt_i hx hb hr hlocks hI hA hQ ⟨by rw [HE], rfl⟩ (Nat.zero_le _) (Nat.zero_le _) dX4_bearsBy_67
    refine lv_if_ne (tgt := 46) hx hb dX4_bearsBy_39 (by decide) (fun c4 => ?_) (fun c4 => ?_)
    · refine lv_aload_n hx hb dX4_bearsBy_46 rfl (lv_at hl 0 rfl) ?_
      refine gM_35 hx hb hts hown hK hI dX4_bearsBy_47 ?_
      refine lv_iload_n hx hb dX4_bearsBy_50 rfl (lv_at hl 1 rfl) ?_
      refine lM_11 hx hb hK hI hp dX4_bearsBy_51 ?_
      refine lv_iconst (v := 1) hx hb dX4_bearsBy_52 (by decide) ?_
      refine lv_icmp_ne (tgt := 62) hx hb dX4_bearsBy_53 (by decide) (fun c5 => ?_) (fun c5 => ?_)
      · refine lv_ldc2d (v := 4602678819172646912) hx hb hown (hts _ q898) dX4_bearsBy_62 ?_
        exact hJ3 (4602678819172646912 : UInt64) (by exact ((if_neg c4).trans (if_neg c5)).symm)
      · refine lv_ldc2d (v := 4604930618986332160) hx hb hown (hts _ q1004) dX4_bearsBy_56 ?_
        refine lv_goto (tgt := 65) hx hb dX4_bearsBy_59 (by decide) ?_
        exact hJ3 (4604930618986332160 : UInt64) (by exact ((if_neg c4).trans (if_pos c5)).symm)
    · refine lv_dconst1 hx hb dX4_bearsBy_42 ?_
      refine lv_goto (tgt := 65) hx hb dX4_bearsBy_43 (by decide) ?_
      exact hJ3 FP.dconst1 (by exact (if_pos c4).symm)
  · refine lv_aload_n hx hb dX4_bearsBy_8 rfl (lv_at hl 0 rfl) ?_
    refine gM_32 hx hb hts hown hK hI dX4_bearsBy_9 ?_
    refine lv_iload_n hx hb dX4_bearsBy_12 rfl (lv_at hl 1 rfl) ?_
    refine lM_10 hx hb hK hI hp dX4_bearsBy_13 ?_
    refine lv_bipush (v := 100) hx hb dX4_bearsBy_14 (by decide) ?_
    have hJ7 : ∀ (x6 : Int32), (x6 = if (S.1 10 up.toNatClampNeg) < 100 then 0 else 60000) → W p G.1 e ({ frames := 1, cells := 0, slots := 0, locals := 21 }) s m args below meth c H locs 0 0 Q (F0 m 25 ls [.int x6]) := by
      intro x6 ex6
      have HE : M_bearsBy S up ut = x6 := by subst ex6; exact (if_neg c1)
      exact rt_i hx hb hr hlocks hI hA hQ ⟨by rw [HE], rfl⟩ (Nat.zero_le _) (Nat.zero_le _) dX4_bearsBy_25
    refine lv_icmp_lt (tgt := 24) hx hb dX4_bearsBy_16 (by decide) (fun c8 => ?_) (fun c8 => ?_)
    · refine lv_iconst (v := 0) hx hb dX4_bearsBy_24 (by decide) ?_
      exact hJ7 0 (by exact (if_pos c8).symm)
    · refine lv_ldc (v := 60000) hx hb hown (hts _ q916) dX4_bearsBy_19 ?_
      refine lv_goto (tgt := 25) hx hb dX4_bearsBy_21 (by decide) ?_
      exact hJ7 60000 (by exact (if_neg c8).symm)
