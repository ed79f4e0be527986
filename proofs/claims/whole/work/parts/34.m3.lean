def M_snow_s (S5 : MS) (uk : Int32) (n : Nat) : MS :=
  let S7 := mset S5 10 (nI n).toNatClampNeg ((S5.1 10 (nI n).toNatClampNeg) + uk)
  let x8 := (nI n) + 1
  S7
def M_snow_f (S : MS) (uk : Int32) : Nat → MS
  | 0 => S
  | n + 1 => M_snow_s (M_snow_f S uk n) uk n

def M_snow (S : MS) (uk : Int32) : Int32 × MS :=
  if M_isIn S uk 1 500 then
    let S3 := mset S 29 0 0
    let S5 := M_snow_f S3 uk (S3.1 3 0).toNatClampNeg
    (S5.1 3 0, S5)
  else
    let S2 := mset S 29 0 1
    (0, S2)
theorem M_snow_N {S : MS} {uk : Int32} {np nv : Nat} (h : MNn S np nv) (n : Nat) : MNn (M_snow_f S uk n) np nv := by
  induction n with
  | zero => exact h
  | succ n ih => exact MNn_set (k := 10) ih (by decide) (by decide) rfl
set_option maxHeartbeats 4000000 in
set_option maxRecDepth 100000 in
theorem cM_snow (G : GX) (ad : Nat → Nat) (S : MS) (uk : Int32) {np nv : Nat} (hN : MNn S np nv) : FC G yX4_snow cX4_snow 3 (some .int) ({ frames := 1, cells := 0, slots := 0, locals := 22 }) [.ref (ad 0), .int uk] (mW G.2.2.2 ad S) (pv (.int (M_snow S uk).1) (mW G.2.2.2 ad (M_snow S uk).2)) := by
  refine FC.go (lv := [(0, .ref (ad 0)), (1, .int uk)]) (by decide) (Nat.le_of_ble_eq_true rfl) rfl (fun p e s m args below meth c A H locs ls Q hx hb hr hts hown hml hlocks hnm hK hE hI hA hl hQ => ?_)
  have hown : s.vm.findClass RX4 = some m.cls := hown
  have hv16 := hN.2.2.2
  have hp10 := hN.2.1
  refine lv_aload_n hx hb dX4_snow_0 rfl (lv_at hl 0 rfl) ?_
  refine lv_iload_n hx hb dX4_snow_1 rfl (lv_at hl 1 rfl) ?_
  refine lv_iconst (v := 1) hx hb dX4_snow_2 (by decide) ?_
  refine lv_sipush (v := 500) hx hb dX4_snow_3 (by decide) ?_
  refine cSv (rest := [.ref (ad 0)]) hx hb hml hts hown hK hE hI (cM_isIn G ad S uk 1 500) kM_94 ⟨Nat.le_of_ble_eq_true rfl, Nat.le_of_ble_eq_true rfl⟩ rfl rfl hl.1 rfl (Nat.le_of_ble_eq_true rfl) dX4_snow_6 ⟨Nat.zero_le _, Nat.zero_le _⟩ (fun H locs hI => ?_)
  refine xb_eq (tgt := 16) hx hb dX4_snow_9 (by decide) (fun c1 => ?_) (fun c1 => ?_)
  · refine lv_iconst (v := 1) hx hb dX4_snow_16 (by decide) ?_
    obtain ⟨S2, eS2⟩ : ∃ z : MS, z = mset S 29 0 1 := ⟨_, rfl⟩
    refine cVv (rest := []) hx hb hml hts hown hK hE hI (cM_fails1 G ad S) kM_101 ⟨Nat.le_of_ble_eq_true rfl, Nat.le_of_ble_eq_true rfl⟩ rfl rfl (kk := 4) (ii := 0) rfl rfl rfl hl.1 rfl (Nat.le_of_ble_eq_true rfl) dX4_snow_17 ⟨Nat.zero_le _, Nat.zero_le _⟩ (fun H locs hI => ?_)
    rw [← eS2] at hI
    refine lv_if_eq (tgt := 25) hx hb dX4_snow_20 (by decide) (fun h => absurd h (by decide)) (fun _ => ?_)
    refine lv_iconst (v := 0) hx hb dX4_snow_23 (by decide) ?_
    have HE : M_snow S uk = (0, S2) := by subst eS2; exact (if_neg c1)
    exact rt_i hx hb hr hlocks hI hA hQ ⟨by rw [HE], by rw [HE]⟩ (Nat.zero_le _) (Nat.zero_le _) dX4_snow_24
  · refine lv_iconst (v := 0) hx hb dX4_snow_12 (by decide) ?_
    refine lv_goto (tgt := 17) hx hb dX4_snow_13 (by decide) ?_
    obtain ⟨S3, eS3⟩ : ∃ z : MS, z = mset S 29 0 0 := ⟨_, rfl⟩
    refine cVv (rest := []) hx hb hml hts hown hK hE hI (cM_fails0 G ad S) kM_101 ⟨Nat.le_of_ble_eq_true rfl, Nat.le_of_ble_eq_true rfl⟩ rfl rfl (kk := 4) (ii := 0) rfl rfl rfl hl.1 rfl (Nat.le_of_ble_eq_true rfl) dX4_snow_17 ⟨Nat.zero_le _, Nat.zero_le _⟩ (fun H locs hI => ?_)
    rw [← eS3] at hI
    refine lv_if_eq (tgt := 25) hx hb dX4_snow_20 (by decide) (fun _ => ?_) (fun h => absurd h (by decide))
    refine lv_iconst (v := 0) hx hb dX4_snow_25 (by decide) ?_
    refine lv_istore_n (lv' := [(2, .int 0), (0, .ref (ad 0)), (1, .int uk)]) hx hb dX4_snow_26 rfl hl (by decide) rfl (fun ls hl => ?_)
    have hL6 : ∀ (k n : Nat), n + k = np → ∀ (i_ : Int32) (S5 : MS) (H : Heap) (locs : List Loc) (ls : Array Slot), (i_ = nI n) → (S5 = M_snow_f S3 uk n) → (fI G.2.2.1 A s.heap (mW G.2.2.2 ad S5) H locs) → (lv_has ls 3 [(2, .int i_), (0, .ref (ad 0)), (1, .int uk)]) → W p G.1 e ({ frames := 1, cells := 0, slots := 0, locals := 22 }) s m args below meth c H locs 0 0 Q (F0 m 27 ls []) := by
      intro k
      induction k with
      | zero =>
        intro n hnk i_ S5 H locs ls ei eS5 hI hl
        subst ei
        have hN2 : MNn S5 np nv := by rw [eS5]; exact M_snow_N ((MNn_set hN (by decide) (by decide) eS3)) n
        refine lv_iload_n hx hb dX4_snow_27 rfl (lv_at hl 0 rfl) ?_
        refine lv_aload_n hx hb dX4_snow_28 rfl (lv_at hl 1 rfl) ?_
        refine gM_91 hx hb hts hown hK hI dX4_snow_29 ?_
        refine lv_icmp_ge (tgt := 51) hx hb dX4_snow_32 (by decide) (fun _ => ?_) (fun h => absurd (by rw [hN2.1]; exact nI_le (by omega) (by omega)) h)
        have hn9 : n = (S3.1 3 0).toNatClampNeg := by rw [((MNn_set hN (by decide) (by decide) eS3)).1, nI_clamp (by omega)]; omega
        rw [hn9] at eS5
        have hl : lv_has ls 3 [(0, .ref (ad 0)), (1, .int uk)] := lv_sub hl [1, 2] rfl
        refine lv_aload_n hx hb dX4_snow_51 rfl (lv_at hl 0 rfl) ?_
        refine gM_91 hx hb hts hown hK hI dX4_snow_52 ?_
        have HE : M_snow S uk = (S5.1 3 0, S5) := by subst eS5 eS3; exact (if_pos c1)
        exact rt_i hx hb hr hlocks hI hA hQ ⟨by rw [HE], by rw [HE]⟩ (Nat.zero_le _) (Nat.zero_le _) dX4_snow_55
      | succ k ih =>
        intro n hnk i_ S5 H locs ls ei eS5 hI hl
        subst ei
        have hN2 : MNn S5 np nv := by rw [eS5]; exact M_snow_N ((MNn_set hN (by decide) (by decide) eS3)) n
        refine lv_iload_n hx hb dX4_snow_27 rfl (lv_at hl 0 rfl) ?_
        refine lv_aload_n hx hb dX4_snow_28 rfl (lv_at hl 1 rfl) ?_
        refine gM_91 hx hb hts hown hK hI dX4_snow_29 ?_
        refine lv_icmp_ge (tgt := 51) hx hb dX4_snow_32 (by decide) (fun h => absurd h (by rw [hN2.1]; exact nI_ge (by omega) (by omega))) (fun _ => ?_)
        refine lv_aload_n hx hb dX4_snow_35 rfl (lv_at hl 1 rfl) ?_
        refine gM_32 hx hb hts hown hK hI dX4_snow_36 ?_
        refine lv_iload_n hx hb dX4_snow_39 rfl (lv_at hl 0 rfl) ?_
        refine lv_dup2_11 hx hb dX4_snow_40 rfl rfl ?_
        refine lM_10 hx hb hK hI (vp_in_nI (by omega) (by decide)) dX4_snow_41 ?_
        refine lv_iload_n hx hb dX4_snow_42 rfl (lv_at hl 2 rfl) ?_
        refine lv_iadd hx hb dX4_snow_43 ?_
        obtain ⟨S7, eS7⟩ : ∃ z : MS, z = mset S5 10 (nI n).toNatClampNeg ((S5.1 10 (nI n).toNatClampNeg) + uk) := ⟨_, rfl⟩
        refine sM_10 hx hb hK hI (vp_in_nI (by omega) (by decide)) eS7 dX4_snow_44 (fun H locs hI => ?_)
        obtain ⟨x8, ex8⟩ : ∃ z : Int32, z = (nI n) + 1 := ⟨_, rfl⟩
        refine lv_iinc (v := x8) (lv' := [(2, .int x8), (0, .ref (ad 0)), (1, .int uk)]) hx hb dX4_snow_45 hl (k := 0) rfl (by rw [ex8]; rfl) (by decide) rfl (fun ls hl => ?_)
        refine lv_goto (tgt := 27) hx hb dX4_snow_48 (by decide) ?_
        have HE : M_snow_s S5 uk n = S7 := by subst ex8 eS7; exact rfl
        exact ih (n + 1) (by omega) x8 S7 H locs ls (by rw [ex8]; exact nI_1 n) (by show _ = M_snow_s (M_snow_f S3 uk n) uk n; rw [← eS5]; exact HE.symm) hI (lv_sub hl [0, 1, 2] rfl)
    exact hL6 np 0 (by omega) 0 S3 H locs ls nI_0.symm rfl hI (lv_sub hl [0, 1, 2] rfl)

def M_piece (S : MS) (ui : Int32) (uf : Int32) (ud : Int32) : Int32 × MS :=
  if (M_isIn S ui 0 2) ∧ ((M_isIn S uf 1 20000) ∧ (M_isIn S ud 1 999)) then
    if (S.1 3 0) = 10 then
      let S4 := mset S 29 0 2
      (0, S4)
    else
      if (S.1 16 0) ≤ 0 then
        let S6 := mset S 29 0 0
        let S7 := mset S6 4 (S6.1 3 0).toNatClampNeg ui
        let S8 := mset S7 5 (S7.1 3 0).toNatClampNeg uf
        let S9 := mset S8 6 (S8.1 3 0).toNatClampNeg ud
        let S10 := mset S9 13 (S9.1 3 0).toNatClampNeg 100
        let S11 := mset S10 15 (2 * (S10.1 3 0)).toNatClampNeg (-1000000)
        let S12 := mset S11 15 ((2 * (S11.1 3 0)) + 1).toNatClampNeg (-1000000)
        let S13 := mset S12 3 0 ((S12.1 3 0) + 1)
        ((S13.1 3 0) - 1, S13)
      else
        let S14 := mset S 29 0 2
        (0, S14)
  else
    let S15 := mset S 29 0 1
    (0, S15)
set_option maxHeartbeats 4000000 in
set_option maxRecDepth 100000 in
theorem cM_piece (G : GX) (ad : Nat → Nat) (S : MS) (ui : Int32) (uf : Int32) (ud : Int32) {np nv : Nat} (hN : MNn S np nv) : FC G yX4_piece cX4_piece 5 (some .int) ({ frames := 1, cells := 0, slots := 0, locals := 22 }) [.ref (ad 0), .int ui, .int uf, .int ud] (mW G.2.2.2 ad S) (pv (.int (M_piece S ui uf ud).1) (mW G.2.2.2 ad (M_piece S ui uf ud).2)) := by
  refine FC.go (lv := [(0, .ref (ad 0)), (1, .int ui), (2, .int uf), (3, .int ud)]) (by decide) (Nat.le_of_ble_eq_true rfl) rfl (fun p e s m args below meth c A H locs ls Q hx hb hr hts hown hml hlocks hnm hK hE hI hA hl hQ => ?_)
  have hown : s.vm.findClass RX4 = some m.cls := hown
  have hv16 := hN.2.2.2
  have hp10 := hN.2.1
  refine lv_iload_n hx hb dX4_piece_0 rfl (lv_at hl 1 rfl) ?_
  refine lv_iconst (v := 0) hx hb dX4_piece_1 (by decide) ?_
  refine lv_iconst (v := 2) hx hb dX4_piece_2 (by decide) ?_
  refine cSv (rest := []) hx hb hml hts hown hK hE hI (cM_isIn G ad S ui 0 2) kM_94 ⟨Nat.le_of_ble_eq_true rfl, Nat.le_of_ble_eq_true rfl⟩ rfl rfl hl.1 rfl (Nat.le_of_ble_eq_true rfl) dX4_piece_3 ⟨Nat.zero_le _, Nat.zero_le _⟩ (fun H locs hI => ?_)
  have hJ1 : ∀ (H : Heap) (locs : List Loc), (fI G.2.2.1 A s.heap (mW G.2.2.2 ad S) H locs) → W p G.1 e ({ frames := 1, cells := 0, slots := 0, locals := 22 }) s m args below meth c H locs 0 0 Q (F0 m 36 ls [.int (bI ((M_isIn S ui 0 2) ∧ ((M_isIn S uf 1 20000) ∧ (M_isIn S ud 1 999))))]) := by
    intro H locs hI
    refine lv_istore (lv' := [(4, .int (bI ((M_isIn S ui 0 2) ∧ ((M_isIn S uf 1 20000) ∧ (M_isIn S ud 1 999))))), (0, .ref (ad 0)), (1, .int ui), (2, .int uf), (3, .int ud)]) hx hb dX4_piece_36 hl (by decide) rfl (fun ls hl => ?_)
    refine lv_aload_n hx hb dX4_piece_38 rfl (lv_at hl 1 rfl) ?_
    refine lv_iload hx hb dX4_piece_39 (lv_at hl 0 rfl) ?_
    refine xb_ne (tgt := 48) hx hb dX4_piece_41 (by decide) (fun c2 => ?_) (fun c2 => ?_)
    · refine lv_aload_n hx hb dX4_piece_48 rfl (lv_at hl 1 rfl) ?_
      refine gM_91 hx hb hts hown hK hI dX4_piece_49 ?_
      refine lv_bipush (v := 10) hx hb dX4_piece_52 (by decide) ?_
      refine lv_icmp_eq (tgt := 64) hx hb dX4_piece_54 (by decide) (fun c3 => ?_) (fun c3 => ?_)
      · refine lv_iconst (v := 2) hx hb dX4_piece_64 (by decide) ?_
        refine lv_goto (tgt := 69) hx hb dX4_piece_65 (by decide) ?_
        obtain ⟨S4, eS4⟩ : ∃ z : MS, z = mset S 29 0 2 := ⟨_, rfl⟩
        refine cVv (rest := []) hx hb hml hts hown hK hE hI (cM_fails2 G ad S) kM_101 ⟨Nat.le_of_ble_eq_true rfl, Nat.le_of_ble_eq_true rfl⟩ rfl rfl (kk := 4) (ii := 0) rfl rfl rfl hl.1 rfl (Nat.le_of_ble_eq_true rfl) dX4_piece_69 ⟨Nat.zero_le _, Nat.zero_le _⟩ (fun H locs hI => ?_)
        rw [← eS4] at hI
        refine lv_if_eq (tgt := 77) hx hb dX4_piece_72 (by decide) (fun h => absurd h (by decide)) (fun _ => ?_)
        refine lv_iconst (v := 0) hx hb dX4_piece_75 (by decide) ?_
        have HE : M_piece S ui uf ud = (0, S4) := by subst eS4; exact (if_pos c2).trans ((if_pos c3))
        exact rt_i hx hb hr hlocks hI hA hQ ⟨by rw [HE], by rw [HE]⟩ (Nat.zero_le _) (Nat.zero_le _) dX4_piece_76
      · refine lv_aload_n hx hb dX4_piece_57 rfl (lv_at hl 1 rfl) ?_
        refine gM_98 hx hb hts hown hK hI dX4_piece_58 ?_
        refine lv_if_le (tgt := 68) hx hb dX4_piece_61 (by decide) (fun c5 => ?_) (fun c5 => ?_)
        · refine lv_iconst (v := 0) hx hb dX4_piece_68 (by decide) ?_
          obtain ⟨S6, eS6⟩ : ∃ z : MS, z = mset S 29 0 0 := ⟨_, rfl⟩
          refine cVv (rest := []) hx hb hml hts hown hK hE hI (cM_fails0 G ad S) kM_101 ⟨Nat.le_of_ble_eq_true rfl, Nat.le_of_ble_eq_true rfl⟩ rfl rfl (kk := 4) (ii := 0) rfl rfl rfl hl.1 rfl (Nat.le_of_ble_eq_true rfl) dX4_piece_69 ⟨Nat.zero_le _, Nat.zero_le _⟩ (fun H locs hI => ?_)
          rw [← eS6] at hI
          refine lv_if_eq (tgt := 77) hx hb dX4_piece_72 (by decide) (fun _ => ?_) (fun h => absurd h (by decide))
          refine lv_aload_n hx hb dX4_piece_77 rfl (lv_at hl 1 rfl) ?_
          refine gM_13 hx hb hts hown hK hI dX4_piece_78 ?_
          refine lv_aload_n hx hb dX4_piece_81 rfl (lv_at hl 1 rfl) ?_
          refine gM_91 hx hb hts hown hK hI dX4_piece_82 ?_
          refine lv_iload_n hx hb dX4_piece_85 rfl (lv_at hl 2 rfl) ?_
          obtain ⟨S7, eS7⟩ : ∃ z : MS, z = mset S6 4 (S6.1 3 0).toNatClampNeg ui := ⟨_, rfl⟩
          refine sM_4 hx hb hK hI (pc_in (MNn_set hN (by decide) (by decide) eS6) (np_lt hN c3)) eS7 dX4_piece_86 (fun H locs hI => ?_)
          refine lv_aload_n hx hb dX4_piece_87 rfl (lv_at hl 1 rfl) ?_
          refine gM_17 hx hb hts hown hK hI dX4_piece_88 ?_
          refine lv_aload_n hx hb dX4_piece_91 rfl (lv_at hl 1 rfl) ?_
          refine gM_91 hx hb hts hown hK hI dX4_piece_92 ?_
          refine lv_iload_n hx hb dX4_piece_95 rfl (lv_at hl 3 rfl) ?_
          obtain ⟨S8, eS8⟩ : ∃ z : MS, z = mset S7 5 (S7.1 3 0).toNatClampNeg uf := ⟨_, rfl⟩
          refine sM_5 hx hb hK hI (pc_in (MNn_set (MNn_set hN (by decide) (by decide) eS6) (by decide) (by decide) eS7) (np_lt hN c3)) eS8 dX4_piece_96 (fun H locs hI => ?_)
          refine lv_aload_n hx hb dX4_piece_97 rfl (lv_at hl 1 rfl) ?_
          refine gM_20 hx hb hts hown hK hI dX4_piece_98 ?_
          refine lv_aload_n hx hb dX4_piece_101 rfl (lv_at hl 1 rfl) ?_
          refine gM_91 hx hb hts hown hK hI dX4_piece_102 ?_
          refine lv_iload_n hx hb dX4_piece_105 rfl (lv_at hl 4 rfl) ?_
          obtain ⟨S9, eS9⟩ : ∃ z : MS, z = mset S8 6 (S8.1 3 0).toNatClampNeg ud := ⟨_, rfl⟩
          refine sM_6 hx hb hK hI (pc_in (MNn_set (MNn_set (MNn_set hN (by decide) (by decide) eS6) (by decide) (by decide) eS7) (by decide) (by decide) eS8) (np_lt hN c3)) eS9 dX4_piece_106 (fun H locs hI => ?_)
          refine lv_aload_n hx hb dX4_piece_107 rfl (lv_at hl 1 rfl) ?_
          refine gM_41 hx hb hts hown hK hI dX4_piece_108 ?_
          refine lv_aload_n hx hb dX4_piece_111 rfl (lv_at hl 1 rfl) ?_
          refine gM_91 hx hb hts hown hK hI dX4_piece_112 ?_
          refine lv_bipush (v := 100) hx hb dX4_piece_115 (by decide) ?_
          obtain ⟨S10, eS10⟩ : ∃ z : MS, z = mset S9 13 (S9.1 3 0).toNatClampNeg 100 := ⟨_, rfl⟩
          refine sM_13 hx hb hK hI (pc_in (MNn_set (MNn_set (MNn_set (MNn_set hN (by decide) (by decide) eS6) (by decide) (by decide) eS7) (by decide) (by decide) eS8) (by decide) (by decide) eS9) (np_lt hN c3)) eS10 dX4_piece_117 (fun H locs hI => ?_)
          refine lv_aload_n hx hb dX4_piece_118 rfl (lv_at hl 1 rfl) ?_
          refine gM_48 hx hb hts hown hK hI dX4_piece_119 ?_
          refine lv_iconst (v := 2) hx hb dX4_piece_122 (by decide) ?_
          refine lv_aload_n hx hb dX4_piece_123 rfl (lv_at hl 1 rfl) ?_
          refine gM_91 hx hb hts hown hK hI dX4_piece_124 ?_
          refine lv_imul hx hb dX4_piece_127 ?_
          refine lv_ldc (v := -1000000) hx hb hown (hts _ q865) dX4_piece_128 ?_
          obtain ⟨S11, eS11⟩ : ∃ z : MS, z = mset S10 15 (2 * (S10.1 3 0)).toNatClampNeg (-1000000) := ⟨_, rfl⟩
          refine sM_15 hx hb hK hI (pc_in2 (MNn_set (MNn_set (MNn_set (MNn_set (MNn_set hN (by decide) (by decide) eS6) (by decide) (by decide) eS7) (by decide) (by decide) eS8) (by decide) (by decide) eS9) (by decide) (by decide) eS10) (np_lt hN c3)) eS11 dX4_piece_130 (fun H locs hI => ?_)
          refine lv_aload_n hx hb dX4_piece_131 rfl (lv_at hl 1 rfl) ?_
          refine gM_48 hx hb hts hown hK hI dX4_piece_132 ?_
          refine lv_iconst (v := 2) hx hb dX4_piece_135 (by decide) ?_
          refine lv_aload_n hx hb dX4_piece_136 rfl (lv_at hl 1 rfl) ?_
          refine gM_91 hx hb hts hown hK hI dX4_piece_137 ?_
          refine lv_imul hx hb dX4_piece_140 ?_
          refine lv_iconst (v := 1) hx hb dX4_piece_141 (by decide) ?_
          refine lv_iadd hx hb dX4_piece_142 ?_
          refine lv_ldc (v := -1000000) hx hb hown (hts _ q865) dX4_piece_143 ?_
          obtain ⟨S12, eS12⟩ : ∃ z : MS, z = mset S11 15 ((2 * (S11.1 3 0)) + 1).toNatClampNeg (-1000000) := ⟨_, rfl⟩
          refine sM_15 hx hb hK hI (pc_in3 (MNn_set (MNn_set (MNn_set (MNn_set (MNn_set (MNn_set hN (by decide) (by decide) eS6) (by decide) (by decide) eS7) (by decide) (by decide) eS8) (by decide) (by decide) eS9) (by decide) (by decide) eS10) (by decide) (by decide) eS11) (np_lt hN c3)) eS12 dX4_piece_145 (fun H locs hI => ?_)
          refine lv_aload_n hx hb dX4_piece_146 rfl (lv_at hl 1 rfl) ?_
          refine lv_dup hx hb dX4_piece_147 rfl ?_
          refine gM_91 hx hb hts hown hK hI dX4_piece_148 ?_
          refine lv_iconst (v := 1) hx hb dX4_piece_151 (by decide) ?_
          refine lv_iadd hx hb dX4_piece_152 ?_
          obtain ⟨S13, eS13⟩ : ∃ z : MS, z = mset S12 3 0 ((S12.1 3 0) + 1) := ⟨_, rfl⟩
          refine pM_91 hx hb hts hown hK hI eS13 dX4_piece_153 (fun H locs hI => ?_)
          refine lv_aload_n hx hb dX4_piece_156 rfl (lv_at hl 1 rfl) ?_
          refine gM_91 hx hb hts hown hK hI dX4_piece_157 ?_
          refine lv_iconst (v := 1) hx hb dX4_piece_160 (by decide) ?_
          refine lv_isub hx hb dX4_piece_161 ?_
          have HE : M_piece S ui uf ud = ((S13.1 3 0) - 1, S13) := by subst eS13 eS12 eS11 eS10 eS9 eS8 eS7 eS6; exact (if_pos c2).trans ((if_neg c3).trans ((if_pos c5)))
          exact rt_i hx hb hr hlocks hI hA hQ ⟨by rw [HE], by rw [HE]⟩ (Nat.zero_le _) (Nat.zero_le _) dX4_piece_162
        · refine lv_iconst (v := 2) hx hb dX4_piece_64 (by decide) ?_
          refine lv_goto (tgt := 69) hx hb dX4_piece_65 (by decide) ?_
          obtain ⟨S14, eS14⟩ : ∃ z : MS, z = mset S 29 0 2 := ⟨_, rfl⟩
          refine cVv (rest := []) hx hb hml hts hown hK hE hI (cM_fails2 G ad S) kM_101 ⟨Nat.le_of_ble_eq_true rfl, Nat.le_of_ble_eq_true rfl⟩ rfl rfl (kk := 4) (ii := 0) rfl rfl rfl hl.1 rfl (Nat.le_of_ble_eq_true rfl) dX4_piece_69 ⟨Nat.zero_le _, Nat.zero_le _⟩ (fun H locs hI => ?_)
          rw [← eS14] at hI
          refine lv_if_eq (tgt := 77) hx hb dX4_piece_72 (by decide) (fun h => absurd h (by decide)) (fun _ => ?_)
          refine lv_iconst (v := 0) hx hb dX4_piece_75 (by decide) ?_
          have HE : M_piece S ui uf ud = (0, S14) := by subst eS14; exact (if_pos c2).trans ((if_neg c3).trans ((if_neg c5)))
          exact rt_i hx hb hr hlocks hI hA hQ ⟨by rw [HE], by rw [HE]⟩ (Nat.zero_le _) (Nat.zero_le _) dX4_piece_76
    · refine lv_iconst (v := 1) hx hb dX4_piece_44 (by decide) ?_
      refine lv_goto (tgt := 69) hx hb dX4_piece_45 (by decide) ?_
      obtain ⟨S15, eS15⟩ : ∃ z : MS, z = mset S 29 0 1 := ⟨_, rfl⟩
      refine cVv (rest := []) hx hb hml hts hown hK hE hI (cM_fails1 G ad S) kM_101 ⟨Nat.le_of_ble_eq_true rfl, Nat.le_of_ble_eq_true rfl⟩ rfl rfl (kk := 4) (ii := 0) rfl rfl rfl hl.1 rfl (Nat.le_of_ble_eq_true rfl) dX4_piece_69 ⟨Nat.zero_le _, Nat.zero_le _⟩ (fun H locs hI => ?_)
      rw [← eS15] at hI
      refine lv_if_eq (tgt := 77) hx hb dX4_piece_72 (by decide) (fun h => absurd h (by decide)) (fun _ => ?_)
      refine lv_iconst (v := 0) hx hb dX4_piece_75 (by decide) ?_
      have HE : M_piece S ui uf ud = (0, S15) := by subst eS15; exact (if_neg c2)
      exact rt_i hx hb hr hlocks hI hA hQ ⟨by rw [HE], by rw [HE]⟩ (Nat.zero_le _) (Nat.zero_le _) dX4_piece_76
  refine xb_eq (tgt := 35) hx hb dX4_piece_6 (by decide) (fun c16 => ?_) (fun c16 => ?_)
  · refine lv_iconst (v := 0) hx hb dX4_piece_35 (by decide) ?_
    have eb17 : (0 : Int32) = bI ((M_isIn S ui 0 2) ∧ ((M_isIn S uf 1 20000) ∧ (M_isIn S ud 1 999))) := (bI_f (fun k => c16 k.1)).symm
    rw [eb17]
    exact hJ1 _ _ hI
  · refine lv_iload_n hx hb dX4_piece_9 rfl (lv_at hl 2 rfl) ?_
    refine lv_iconst (v := 1) hx hb dX4_piece_10 (by decide) ?_
    refine lv_sipush (v := 20000) hx hb dX4_piece_11 (by decide) ?_
    refine cSv (rest := []) hx hb hml hts hown hK hE hI (cM_isIn G ad S uf 1 20000) kM_94 ⟨Nat.le_of_ble_eq_true rfl, Nat.le_of_ble_eq_true rfl⟩ rfl rfl hl.1 rfl (Nat.le_of_ble_eq_true rfl) dX4_piece_14 ⟨Nat.zero_le _, Nat.zero_le _⟩ (fun H locs hI => ?_)
    refine xb_eq (tgt := 35) hx hb dX4_piece_17 (by decide) (fun c18 => ?_) (fun c18 => ?_)
    · refine lv_iconst (v := 0) hx hb dX4_piece_35 (by decide) ?_
      have eb19 : (0 : Int32) = bI ((M_isIn S ui 0 2) ∧ ((M_isIn S uf 1 20000) ∧ (M_isIn S ud 1 999))) := (bI_f (fun k => (fun k => c18 k.1) k.2)).symm
      rw [eb19]
      exact hJ1 _ _ hI
    · refine lv_iload_n hx hb dX4_piece_20 rfl (lv_at hl 3 rfl) ?_
      refine lv_iconst (v := 1) hx hb dX4_piece_21 (by decide) ?_
      refine lv_sipush (v := 999) hx hb dX4_piece_22 (by decide) ?_
      refine cSv (rest := []) hx hb hml hts hown hK hE hI (cM_isIn G ad S ud 1 999) kM_94 ⟨Nat.le_of_ble_eq_true rfl, Nat.le_of_ble_eq_true rfl⟩ rfl rfl hl.1 rfl (Nat.le_of_ble_eq_true rfl) dX4_piece_25 ⟨Nat.zero_le _, Nat.zero_le _⟩ (fun H locs hI => ?_)
      refine xb_eq (tgt := 35) hx hb dX4_piece_28 (by decide) (fun c20 => ?_) (fun c20 => ?_)
      · refine lv_iconst (v := 0) hx hb dX4_piece_35 (by decide) ?_
        have eb21 : (0 : Int32) = bI ((M_isIn S ui 0 2) ∧ ((M_isIn S uf 1 20000) ∧ (M_isIn S ud 1 999))) := (bI_f (fun k => (fun k => c20 k.2) k.2)).symm
        rw [eb21]
        exact hJ1 _ _ hI
      · refine lv_iconst (v := 1) hx hb dX4_piece_31 (by decide) ?_
        refine lv_goto (tgt := 36) hx hb dX4_piece_32 (by decide) ?_
        have eb22 : (1 : Int32) = bI ((M_isIn S ui 0 2) ∧ ((M_isIn S uf 1 20000) ∧ (M_isIn S ud 1 999))) := (bI_t ⟨c16, ⟨c18, c20⟩⟩).symm
        rw [eb22]
        exact hJ1 _ _ hI

def M_vehicle (S : MS) (ui : Int32) (uf : Int32) (ud : Int32) : Int32 × MS :=
  if (M_isIn S ui 500 40000) ∧ ((M_isIn S uf 0 60000) ∧ (M_isIn S ud 1 300)) then
    if (S.1 16 0) = 16 then
      let S4 := mset S 29 0 2
      (0, S4)
    else
      if (S.1 3 0) = 0 then
        let S12 := mset S 29 0 2
        (0, S12)
      else
        let S6 := mset S 29 0 0
        let S7 := mset S6 17 (S6.1 16 0).toNatClampNeg ui
        let S8 := mset S7 18 (S7.1 16 0).toNatClampNeg uf
        let S9 := mset S8 19 (S8.1 16 0).toNatClampNeg ud
        let S10 := mset S9 25 (S9.1 16 0).toNatClampNeg (-1)
        let S11 := mset S10 16 0 ((S10.1 16 0) + 1)
        ((S11.1 16 0) - 1, S11)
  else
    let S13 := mset S 29 0 1
    (0, S13)
set_option maxHeartbeats 4000000 in
set_option maxRecDepth 100000 in
theorem cM_vehicle (G : GX) (ad : Nat → Nat) (S : MS) (ui : Int32) (uf : Int32) (ud : Int32) {np nv : Nat} (hN : MNn S np nv) : FC G yX4_vehicle cX4_vehicle 5 (some .int) ({ frames := 1, cells := 0, slots := 0, locals := 22 }) [.ref (ad 0), .int ui, .int uf, .int ud] (mW G.2.2.2 ad S) (pv (.int (M_vehicle S ui uf ud).1) (mW G.2.2.2 ad (M_vehicle S ui uf ud).2)) := by
  refine FC.go (lv := [(0, .ref (ad 0)), (1, .int ui), (2, .int uf), (3, .int ud)]) (by decide) (Nat.le_of_ble_eq_true rfl) rfl (fun p e s m args below meth c A H locs ls Q hx hb hr hts hown hml hlocks hnm hK hE hI hA hl hQ => ?_)
  have hown : s.vm.findClass RX4 = some m.cls := hown
  have hv16 := hN.2.2.2
  have hp10 := hN.2.1
  refine lv_iload_n hx hb dX4_vehicle_0 rfl (lv_at hl 1 rfl) ?_
  refine lv_sipush (v := 500) hx hb dX4_vehicle_1 (by decide) ?_
  refine lv_ldc (v := 40000) hx hb hown (hts _ q915) dX4_vehicle_4 ?_
  refine cSv (rest := []) hx hb hml hts hown hK hE hI (cM_isIn G ad S ui 500 40000) kM_94 ⟨Nat.le_of_ble_eq_true rfl, Nat.le_of_ble_eq_true rfl⟩ rfl rfl hl.1 rfl (Nat.le_of_ble_eq_true rfl) dX4_vehicle_6 ⟨Nat.zero_le _, Nat.zero_le _⟩ (fun H locs hI => ?_)
  have hJ1 : ∀ (H : Heap) (locs : List Loc), (fI G.2.2.1 A s.heap (mW G.2.2.2 ad S) H locs) → W p G.1 e ({ frames := 1, cells := 0, slots := 0, locals := 22 }) s m args below meth c H locs 0 0 Q (F0 m 38 ls [.int (bI ((M_isIn S ui 500 40000) ∧ ((M_isIn S uf 0 60000) ∧ (M_isIn S ud 1 300))))]) := by
    intro H locs hI
    refine lv_istore (lv' := [(4, .int (bI ((M_isIn S ui 500 40000) ∧ ((M_isIn S uf 0 60000) ∧ (M_isIn S ud 1 300))))), (0, .ref (ad 0)), (1, .int ui), (2, .int uf), (3, .int ud)]) hx hb dX4_vehicle_38 hl (by decide) rfl (fun ls hl => ?_)
    refine lv_aload_n hx hb dX4_vehicle_40 rfl (lv_at hl 1 rfl) ?_
    refine lv_iload hx hb dX4_vehicle_41 (lv_at hl 0 rfl) ?_
    refine xb_ne (tgt := 50) hx hb dX4_vehicle_43 (by decide) (fun c2 => ?_) (fun c2 => ?_)
    · refine lv_aload_n hx hb dX4_vehicle_50 rfl (lv_at hl 1 rfl) ?_
      refine gM_98 hx hb hts hown hK hI dX4_vehicle_51 ?_
      refine lv_bipush (v := 16) hx hb dX4_vehicle_54 (by decide) ?_
      refine lv_icmp_eq (tgt := 66) hx hb dX4_vehicle_56 (by decide) (fun c3 => ?_) (fun c3 => ?_)
      · refine lv_iconst (v := 2) hx hb dX4_vehicle_66 (by decide) ?_
        refine lv_goto (tgt := 71) hx hb dX4_vehicle_67 (by decide) ?_
        obtain ⟨S4, eS4⟩ : ∃ z : MS, z = mset S 29 0 2 := ⟨_, rfl⟩
        refine cVv (rest := []) hx hb hml hts hown hK hE hI (cM_fails2 G ad S) kM_101 ⟨Nat.le_of_ble_eq_true rfl, Nat.le_of_ble_eq_true rfl⟩ rfl rfl (kk := 4) (ii := 0) rfl rfl rfl hl.1 rfl (Nat.le_of_ble_eq_true rfl) dX4_vehicle_71 ⟨Nat.zero_le _, Nat.zero_le _⟩ (fun H locs hI => ?_)
        rw [← eS4] at hI
        refine lv_if_eq (tgt := 79) hx hb dX4_vehicle_74 (by decide) (fun h => absurd h (by decide)) (fun _ => ?_)
        refine lv_iconst (v := 0) hx hb dX4_vehicle_77 (by decide) ?_
        have HE : M_vehicle S ui uf ud = (0, S4) := by subst eS4; exact (if_pos c2).trans ((if_pos c3))
        exact rt_i hx hb hr hlocks hI hA hQ ⟨by rw [HE], by rw [HE]⟩ (Nat.zero_le _) (Nat.zero_le _) dX4_vehicle_78
      · refine lv_aload_n hx hb dX4_vehicle_59 rfl (lv_at hl 1 rfl) ?_
        refine gM_91 hx hb hts hown hK hI dX4_vehicle_60 ?_
        refine lv_if_ne (tgt := 70) hx hb dX4_vehicle_63 (by decide) (fun c5 => ?_) (fun c5 => ?_)
        · refine lv_iconst (v := 0) hx hb dX4_vehicle_70 (by decide) ?_
          obtain ⟨S6, eS6⟩ : ∃ z : MS, z = mset S 29 0 0 := ⟨_, rfl⟩
          refine cVv (rest := []) hx hb hml hts hown hK hE hI (cM_fails0 G ad S) kM_101 ⟨Nat.le_of_ble_eq_true rfl, Nat.le_of_ble_eq_true rfl⟩ rfl rfl (kk := 4) (ii := 0) rfl rfl rfl hl.1 rfl (Nat.le_of_ble_eq_true rfl) dX4_vehicle_71 ⟨Nat.zero_le _, Nat.zero_le _⟩ (fun H locs hI => ?_)
          rw [← eS6] at hI
          refine lv_if_eq (tgt := 79) hx hb dX4_vehicle_74 (by decide) (fun _ => ?_) (fun h => absurd h (by decide))
          refine lv_aload_n hx hb dX4_vehicle_79 rfl (lv_at hl 1 rfl) ?_
          refine gM_51 hx hb hts hown hK hI dX4_vehicle_80 ?_
          refine lv_aload_n hx hb dX4_vehicle_83 rfl (lv_at hl 1 rfl) ?_
          refine gM_98 hx hb hts hown hK hI dX4_vehicle_84 ?_
          refine lv_iload_n hx hb dX4_vehicle_87 rfl (lv_at hl 2 rfl) ?_
          obtain ⟨S7, eS7⟩ : ∃ z : MS, z = mset S6 17 (S6.1 16 0).toNatClampNeg ui := ⟨_, rfl⟩
          refine sM_17 hx hb hK hI (vc_in (MNn_set hN (by decide) (by decide) eS6) (nv_lt hN c3)) eS7 dX4_vehicle_88 (fun H locs hI => ?_)
          refine lv_aload_n hx hb dX4_vehicle_89 rfl (lv_at hl 1 rfl) ?_
          refine gM_54 hx hb hts hown hK hI dX4_vehicle_90 ?_
          refine lv_aload_n hx hb dX4_vehicle_93 rfl (lv_at hl 1 rfl) ?_
          refine gM_98 hx hb hts hown hK hI dX4_vehicle_94 ?_
          refine lv_iload_n hx hb dX4_vehicle_97 rfl (lv_at hl 3 rfl) ?_
          obtain ⟨S8, eS8⟩ : ∃ z : MS, z = mset S7 18 (S7.1 16 0).toNatClampNeg uf := ⟨_, rfl⟩
          refine sM_18 hx hb hK hI (vc_in (MNn_set (MNn_set hN (by decide) (by decide) eS6) (by decide) (by decide) eS7) (nv_lt hN c3)) eS8 dX4_vehicle_98 (fun H locs hI => ?_)
          refine lv_aload_n hx hb dX4_vehicle_99 rfl (lv_at hl 1 rfl) ?_
          refine gM_57 hx hb hts hown hK hI dX4_vehicle_100 ?_
          refine lv_aload_n hx hb dX4_vehicle_103 rfl (lv_at hl 1 rfl) ?_
          refine gM_98 hx hb hts hown hK hI dX4_vehicle_104 ?_
          refine lv_iload_n hx hb dX4_vehicle_107 rfl (lv_at hl 4 rfl) ?_
          obtain ⟨S9, eS9⟩ : ∃ z : MS, z = mset S8 19 (S8.1 16 0).toNatClampNeg ud := ⟨_, rfl⟩
          refine sM_19 hx hb hK hI (vc_in (MNn_set (MNn_set (MNn_set hN (by decide) (by decide) eS6) (by decide) (by decide) eS7) (by decide) (by decide) eS8) (nv_lt hN c3)) eS9 dX4_vehicle_108 (fun H locs hI => ?_)
          refine lv_aload_n hx hb dX4_vehicle_109 rfl (lv_at hl 1 rfl) ?_
          refine gM_76 hx hb hts hown hK hI dX4_vehicle_110 ?_
          refine lv_aload_n hx hb dX4_vehicle_113 rfl (lv_at hl 1 rfl) ?_
          refine gM_98 hx hb hts hown hK hI dX4_vehicle_114 ?_
          refine lv_iconst (v := (-1)) hx hb dX4_vehicle_117 (by decide) ?_
          obtain ⟨S10, eS10⟩ : ∃ z : MS, z = mset S9 25 (S9.1 16 0).toNatClampNeg (-1) := ⟨_, rfl⟩
          refine sM_25 hx hb hK hI (vc_in (MNn_set (MNn_set (MNn_set (MNn_set hN (by decide) (by decide) eS6) (by decide) (by decide) eS7) (by decide) (by decide) eS8) (by decide) (by decide) eS9) (nv_lt hN c3)) eS10 dX4_vehicle_118 (fun H locs hI => ?_)
          refine lv_aload_n hx hb dX4_vehicle_119 rfl (lv_at hl 1 rfl) ?_
          refine lv_dup hx hb dX4_vehicle_120 rfl ?_
          refine gM_98 hx hb hts hown hK hI dX4_vehicle_121 ?_
          refine lv_iconst (v := 1) hx hb dX4_vehicle_124 (by decide) ?_
          refine lv_iadd hx hb dX4_vehicle_125 ?_
          obtain ⟨S11, eS11⟩ : ∃ z : MS, z = mset S10 16 0 ((S10.1 16 0) + 1) := ⟨_, rfl⟩
          refine pM_98 hx hb hts hown hK hI eS11 dX4_vehicle_126 (fun H locs hI => ?_)
          refine lv_aload_n hx hb dX4_vehicle_129 rfl (lv_at hl 1 rfl) ?_
          refine gM_98 hx hb hts hown hK hI dX4_vehicle_130 ?_
          refine lv_iconst (v := 1) hx hb dX4_vehicle_133 (by decide) ?_
          refine lv_isub hx hb dX4_vehicle_134 ?_
          have HE : M_vehicle S ui uf ud = ((S11.1 16 0) - 1, S11) := by subst eS11 eS10 eS9 eS8 eS7 eS6; exact (if_pos c2).trans ((if_neg c3).trans ((if_neg c5)))
          exact rt_i hx hb hr hlocks hI hA hQ ⟨by rw [HE], by rw [HE]⟩ (Nat.zero_le _) (Nat.zero_le _) dX4_vehicle_135
        · refine lv_iconst (v := 2) hx hb dX4_vehicle_66 (by decide) ?_
          refine lv_goto (tgt := 71) hx hb dX4_vehicle_67 (by decide) ?_
          obtain ⟨S12, eS12⟩ : ∃ z : MS, z = mset S 29 0 2 := ⟨_, rfl⟩
          refine cVv (rest := []) hx hb hml hts hown hK hE hI (cM_fails2 G ad S) kM_101 ⟨Nat.le_of_ble_eq_true rfl, Nat.le_of_ble_eq_true rfl⟩ rfl rfl (kk := 4) (ii := 0) rfl rfl rfl hl.1 rfl (Nat.le_of_ble_eq_true rfl) dX4_vehicle_71 ⟨Nat.zero_le _, Nat.zero_le _⟩ (fun H locs hI => ?_)
          rw [← eS12] at hI
          refine lv_if_eq (tgt := 79) hx hb dX4_vehicle_74 (by decide) (fun h => absurd h (by decide)) (fun _ => ?_)
          refine lv_iconst (v := 0) hx hb dX4_vehicle_77 (by decide) ?_
          have HE : M_vehicle S ui uf ud = (0, S12) := by subst eS12; exact (if_pos c2).trans ((if_neg c3).trans ((if_pos c5)))
          exact rt_i hx hb hr hlocks hI hA hQ ⟨by rw [HE], by rw [HE]⟩ (Nat.zero_le _) (Nat.zero_le _) dX4_vehicle_78
    · refine lv_iconst (v := 1) hx hb dX4_vehicle_46 (by decide) ?_
      refine lv_goto (tgt := 71) hx hb dX4_vehicle_47 (by decide) ?_
      obtain ⟨S13, eS13⟩ : ∃ z : MS, z = mset S 29 0 1 := ⟨_, rfl⟩
      refine cVv (rest := []) hx hb hml hts hown hK hE hI (cM_fails1 G ad S) kM_101 ⟨Nat.le_of_ble_eq_true rfl, Nat.le_of_ble_eq_true rfl⟩ rfl rfl (kk := 4) (ii := 0) rfl rfl rfl hl.1 rfl (Nat.le_of_ble_eq_true rfl) dX4_vehicle_71 ⟨Nat.zero_le _, Nat.zero_le _⟩ (fun H locs hI => ?_)
      rw [← eS13] at hI
      refine lv_if_eq (tgt := 79) hx hb dX4_vehicle_74 (by decide) (fun h => absurd h (by decide)) (fun _ => ?_)
      refine lv_iconst (v := 0) hx hb dX4_vehicle_77 (by decide) ?_
      have HE : M_vehicle S ui uf ud = (0, S13) := by subst eS13; exact (if_neg c2)
      exact rt_i hx hb hr hlocks hI hA hQ ⟨by rw [HE], by rw [HE]⟩ (Nat.zero_le _) (Nat.zero_le _) dX4_vehicle_78
  refine xb_eq (tgt := 37) hx hb dX4_vehicle_9 (by decide) (fun c14 => ?_) (fun c14 => ?_)
  · refine lv_iconst (v := 0) hx hb dX4_vehicle_37 (by decide) ?_
    have eb15 : (0 : Int32) = bI ((M_isIn S ui 500 40000) ∧ ((M_isIn S uf 0 60000) ∧ (M_isIn S ud 1 300))) := (bI_f (fun k => c14 k.1)).symm
    rw [eb15]
    exact hJ1 _ _ hI
  · refine lv_iload_n hx hb dX4_vehicle_12 rfl (lv_at hl 2 rfl) ?_
    refine lv_iconst (v := 0) hx hb dX4_vehicle_13 (by decide) ?_
    refine lv_ldc (v := 60000) hx hb hown (hts _ q916) dX4_vehicle_14 ?_
    refine cSv (rest := []) hx hb hml hts hown hK hE hI (cM_isIn G ad S uf 0 60000) kM_94 ⟨Nat.le_of_ble_eq_true rfl, Nat.le_of_ble_eq_true rfl⟩ rfl rfl hl.1 rfl (Nat.le_of_ble_eq_true rfl) dX4_vehicle_16 ⟨Nat.zero_le _, Nat.zero_le _⟩ (fun H locs hI => ?_)
    refine xb_eq (tgt := 37) hx hb dX4_vehicle_19 (by decide) (fun c16 => ?_) (fun c16 => ?_)
    · refine lv_iconst (v := 0) hx hb dX4_vehicle_37 (by decide) ?_
      have eb17 : (0 : Int32) = bI ((M_isIn S ui 500 40000) ∧ ((M_isIn S uf 0 60000) ∧ (M_isIn S ud 1 300))) := (bI_f (fun k => (fun k => c16 k.1) k.2)).symm
      rw [eb17]
      exact hJ1 _ _ hI
    · refine lv_iload_n hx hb dX4_vehicle_22 rfl (lv_at hl 3 rfl) ?_
      refine lv_iconst (v := 1) hx hb dX4_vehicle_23 (by decide) ?_
      refine lv_sipush (v := 300) hx hb dX4_vehicle_24 (by decide) ?_
      refine cSv (rest := []) hx hb hml hts hown hK hE hI (cM_isIn G ad S ud 1 300) kM_94 ⟨Nat.le_of_ble_eq_true rfl, Nat.le_of_ble_eq_true rfl⟩ rfl rfl hl.1 rfl (Nat.le_of_ble_eq_true rfl) dX4_vehicle_27 ⟨Nat.zero_le _, Nat.zero_le _⟩ (fun H locs hI => ?_)
      refine xb_eq (tgt := 37) hx hb dX4_vehicle_30 (by decide) (fun c18 => ?_) (fun c18 => ?_)
      · refine lv_iconst (v := 0) hx hb dX4_vehicle_37 (by decide) ?_
        have eb19 : (0 : Int32) = bI ((M_isIn S ui 500 40000) ∧ ((M_isIn S uf 0 60000) ∧ (M_isIn S ud 1 300))) := (bI_f (fun k => (fun k => c18 k.2) k.2)).symm
        rw [eb19]
        exact hJ1 _ _ hI
      · refine lv_iconst (v := 1) hx hb dX4_vehicle_33 (by decide) ?_
        refine lv_goto (tgt := 38) hx hb dX4_vehicle_34 (by decide) ?_
        have eb20 : (1 : Int32) = bI ((M_isIn S ui 500 40000) ∧ ((M_isIn S uf 0 60000) ∧ (M_isIn S ud 1 300))) := (bI_t ⟨c14, ⟨c16, c18⟩⟩).symm
        rw [eb20]
        exact hJ1 _ _ hI

def M_unloads (S : MS) (uv : Int32) (ub : Int32) : MS :=
  let S1 := if (S.1 24 uv.toNatClampNeg) ≤ 0 then S else (mset (mset S 27 (S.1 25 uv.toNatClampNeg).toNatClampNeg ((S.1 27 (S.1 25 uv.toNatClampNeg).toNatClampNeg) + (if ub = 0 then 0 else (S.1 24 uv.toNatClampNeg)))) 26 ((mset S 27 (S.1 25 uv.toNatClampNeg).toNatClampNeg ((S.1 27 (S.1 25 uv.toNatClampNeg).toNatClampNeg) + (if ub = 0 then 0 else (S.1 24 uv.toNatClampNeg)))).1 25 uv.toNatClampNeg).toNatClampNeg (((mset S 27 (S.1 25 uv.toNatClampNeg).toNatClampNeg ((S.1 27 (S.1 25 uv.toNatClampNeg).toNatClampNeg) + (if ub = 0 then 0 else (S.1 24 uv.toNatClampNeg)))).1 26 ((mset S 27 (S.1 25 uv.toNatClampNeg).toNatClampNeg ((S.1 27 (S.1 25 uv.toNatClampNeg).toNatClampNeg) + (if ub = 0 then 0 else (S.1 24 uv.toNatClampNeg)))).1 25 uv.toNatClampNeg).toNatClampNeg) - (if ub = 0 then ((mset S 27 (S.1 25 uv.toNatClampNeg).toNatClampNeg ((S.1 27 (S.1 25 uv.toNatClampNeg).toNatClampNeg) + (if ub = 0 then 0 else (S.1 24 uv.toNatClampNeg)))).1 24 uv.toNatClampNeg) else 0)))
  let S4 := mset S1 24 uv.toNatClampNeg 0
  let S5 := mset S4 25 uv.toNatClampNeg (-1)
  S5
set_option maxHeartbeats 4000000 in
set_option maxRecDepth 100000 in
theorem cM_unloads (G : GX) (ad : Nat → Nat) (S : MS) (uv : Int32) (ub : Int32) (hv : vp_in uv 16) (hG : GI S) : FC G yX4_unloads cX4_unloads 3 none ({ frames := 0, cells := 0, slots := 0, locals := 0 }) [.ref (ad 0), .int uv, .int ub] (mW G.2.2.2 ad S) (p0 (mW G.2.2.2 ad (M_unloads S uv ub))) := by
  refine FC.go (lv := [(0, .ref (ad 0)), (1, .int uv), (2, .int ub)]) (by decide) (Nat.le_of_ble_eq_true rfl) rfl (fun p e s m args below meth c A H locs ls Q hx hb hr hts hown hml hlocks hnm hK hE hI hA hl hQ => ?_)
  have hown : s.vm.findClass RX4 = some m.cls := hown
  refine lv_aload_n hx hb dX4_unloads_0 rfl (lv_at hl 0 rfl) ?_
  refine gM_73 hx hb hts hown hK hI dX4_unloads_1 ?_
  refine lv_iload_n hx hb dX4_unloads_4 rfl (lv_at hl 1 rfl) ?_
  refine lM_24 hx hb hK hI hv dX4_unloads_5 ?_
  have hJ3 : ∀ (S1 : MS) (H : Heap) (locs : List Loc), (S1 = if (S.1 24 uv.toNatClampNeg) ≤ 0 then S else (mset (mset S 27 (S.1 25 uv.toNatClampNeg).toNatClampNeg ((S.1 27 (S.1 25 uv.toNatClampNeg).toNatClampNeg) + (if ub = 0 then 0 else (S.1 24 uv.toNatClampNeg)))) 26 ((mset S 27 (S.1 25 uv.toNatClampNeg).toNatClampNeg ((S.1 27 (S.1 25 uv.toNatClampNeg).toNatClampNeg) + (if ub = 0 then 0 else (S.1 24 uv.toNatClampNeg)))).1 25 uv.toNatClampNeg).toNatClampNeg (((mset S 27 (S.1 25 uv.toNatClampNeg).toNatClampNeg ((S.1 27 (S.1 25 uv.toNatClampNeg).toNatClampNeg) + (if ub = 0 then 0 else (S.1 24 uv.toNatClampNeg)))).1 26 ((mset S 27 (S.1 25 uv.toNatClampNeg).toNatClampNeg ((S.1 27 (S.1 25 uv.toNatClampNeg).toNatClampNeg) + (if ub = 0 then 0 else (S.1 24 uv.toNatClampNeg)))).1 25 uv.toNatClampNeg).toNatClampNeg) - (if ub = 0 then ((mset S 27 (S.1 25 uv.toNatClampNeg).toNatClampNeg ((S.1 27 (S.1 25 uv.toNatClampNeg).toNatClampNeg) + (if ub = 0 then 0 else (S.1 24 uv.toNatClampNeg)))).1 24 uv.toNatClampNeg) else 0)))) → (fI G.2.2.1 A s.heap (mW G.2.2.2 ad S1) H locs) → (GI S1) → W p G.1 e ({ frames := 0, cells := 0, slots := 0, locals := 0 }) s m args below meth c H locs 0 0 Q (F0 m 65 ls []) := by
    intro S1 H locs eS1 hI hf2
    refine lv_aload_n hx hb dX4_unloads_65 rfl (lv_at hl 0 rfl) ?_
    refine gM_73 hx hb hts hown hK hI dX4_unloads_66 ?_
    refine lv_iload_n hx hb dX4_unloads_69 rfl (lv_at hl 1 rfl) ?_
    refine lv_iconst (v := 0) hx hb dX4_unloads_70 (by decide) ?_
    obtain ⟨S4, eS4⟩ : ∃ z : MS, z = mset S1 24 uv.toNatClampNeg 0 := ⟨_, rfl⟩
    refine sM_24 hx hb hK hI hv eS4 dX4_unloads_71 (fun H locs hI => ?_)
    refine lv_aload_n hx hb dX4_unloads_72 rfl (lv_at hl 0 rfl) ?_
    refine gM_76 hx hb hts hown hK hI dX4_unloads_73 ?_
    refine lv_iload_n hx hb dX4_unloads_76 rfl (lv_at hl 1 rfl) ?_
    refine lv_iconst (v := (-1)) hx hb dX4_unloads_77 (by decide) ?_
    obtain ⟨S5, eS5⟩ : ∃ z : MS, z = mset S4 25 uv.toNatClampNeg (-1) := ⟨_, rfl⟩
    refine sM_25 hx hb hK hI hv eS5 dX4_unloads_78 (fun H locs hI => ?_)
    have HE : M_unloads S uv ub = S5 := by subst eS5 eS4 eS1; exact rfl
    exact rt_v hx hb hr hlocks hI hA hQ ⟨rfl, by rw [HE]⟩ (Nat.zero_le _) (Nat.zero_le _) dX4_unloads_79
  refine lv_if_le (tgt := 65) hx hb dX4_unloads_6 (by decide) (fun c6 => ?_) (fun c6 => ?_)
  · exact hJ3 S _ _ (by exact (if_pos c6).symm) hI hG
  · refine lv_aload_n hx hb dX4_unloads_9 rfl (lv_at hl 0 rfl) ?_
    refine gM_82 hx hb hts hown hK hI dX4_unloads_10 ?_
    refine lv_aload_n hx hb dX4_unloads_13 rfl (lv_at hl 0 rfl) ?_
    refine gM_76 hx hb hts hown hK hI dX4_unloads_14 ?_
    refine lv_iload_n hx hb dX4_unloads_17 rfl (lv_at hl 1 rfl) ?_
    refine lM_25 hx hb hK hI hv dX4_unloads_18 ?_
    refine lv_dup2_11 hx hb dX4_unloads_19 rfl rfl ?_
    refine lM_27 hx hb hK hI (hG _ c6) dX4_unloads_20 ?_
    refine lv_iload_n hx hb dX4_unloads_21 rfl (lv_at hl 2 rfl) ?_
    have hJ8 : ∀ (x7 : Int32), (x7 = if ub = 0 then 0 else (S.1 24 uv.toNatClampNeg)) → W p G.1 e ({ frames := 0, cells := 0, slots := 0, locals := 0 }) s m args below meth c H locs 0 0 Q (F0 m 35 ls [.int x7, .int (S.1 27 (S.1 25 uv.toNatClampNeg).toNatClampNeg), .int (S.1 25 uv.toNatClampNeg), .ref (ad 27)]) := by
      intro x7 ex7
      refine lv_iadd hx hb dX4_unloads_35 ?_
      obtain ⟨S9, eS9⟩ : ∃ z : MS, z = mset S 27 (S.1 25 uv.toNatClampNeg).toNatClampNeg ((S.1 27 (S.1 25 uv.toNatClampNeg).toNatClampNeg) + x7) := ⟨_, rfl⟩
      refine sM_27 hx hb hK hI (hG _ c6) eS9 dX4_unloads_36 (fun H locs hI => ?_)
      refine lv_aload_n hx hb dX4_unloads_37 rfl (lv_at hl 0 rfl) ?_
      refine gM_79 hx hb hts hown hK hI dX4_unloads_38 ?_
      refine lv_aload_n hx hb dX4_unloads_41 rfl (lv_at hl 0 rfl) ?_
      refine gM_76 hx hb hts hown hK hI dX4_unloads_42 ?_
      refine lv_iload_n hx hb dX4_unloads_45 rfl (lv_at hl 1 rfl) ?_
      refine lM_25 hx hb hK hI hv dX4_unloads_46 ?_
      refine lv_dup2_11 hx hb dX4_unloads_47 rfl rfl ?_
      refine lM_26 hx hb hK hI (by have h9 := hG _ c6; subst eS9; exact h9) dX4_unloads_48 ?_
      refine lv_iload_n hx hb dX4_unloads_49 rfl (lv_at hl 2 rfl) ?_
      have hJ11 : ∀ (x10 : Int32), (x10 = if ub = 0 then (S9.1 24 uv.toNatClampNeg) else 0) → W p G.1 e ({ frames := 0, cells := 0, slots := 0, locals := 0 }) s m args below meth c H locs 0 0 Q (F0 m 63 ls [.int x10, .int (S9.1 26 (S9.1 25 uv.toNatClampNeg).toNatClampNeg), .int (S9.1 25 uv.toNatClampNeg), .ref (ad 26)]) := by
        intro x10 ex10
        refine lv_isub hx hb dX4_unloads_63 ?_
        obtain ⟨S12, eS12⟩ : ∃ z : MS, z = mset S9 26 (S9.1 25 uv.toNatClampNeg).toNatClampNeg ((S9.1 26 (S9.1 25 uv.toNatClampNeg).toNatClampNeg) - x10) := ⟨_, rfl⟩
        refine sM_26 hx hb hK hI (by have h9 := hG _ c6; subst eS9; exact h9) eS12 dX4_unloads_64 (fun H locs hI => ?_)
        exact hJ3 S12 _ _ (by subst eS12 ex10 eS9 ex7; exact (if_neg c6).symm) hI (GI_set (GI_set hG (by decide) (by decide) eS9) (by decide) (by decide) eS12)
      refine lv_if_eq (tgt := 57) hx hb dX4_unloads_50 (by decide) (fun c13 => ?_) (fun c13 => ?_)
      · refine lv_aload_n hx hb dX4_unloads_57 rfl (lv_at hl 0 rfl) ?_
        refine gM_73 hx hb hts hown hK hI dX4_unloads_58 ?_
        refine lv_iload_n hx hb dX4_unloads_61 rfl (lv_at hl 1 rfl) ?_
        refine lM_24 hx hb hK hI hv dX4_unloads_62 ?_
        exact hJ11 (S9.1 24 uv.toNatClampNeg) (by exact (if_pos c13).symm)
      · refine lv_iconst (v := 0) hx hb dX4_unloads_53 (by decide) ?_
        refine lv_goto (tgt := 63) hx hb dX4_unloads_54 (by decide) ?_
        exact hJ11 0 (by exact (if_neg c13).symm)
    refine lv_if_eq (tgt := 34) hx hb dX4_unloads_22 (by decide) (fun c14 => ?_) (fun c14 => ?_)
    · refine lv_iconst (v := 0) hx hb dX4_unloads_34 (by decide) ?_
      exact hJ8 0 (by exact (if_pos c14).symm)
    · refine lv_aload_n hx hb dX4_unloads_25 rfl (lv_at hl 0 rfl) ?_
      refine gM_73 hx hb hts hown hK hI dX4_unloads_26 ?_
      refine lv_iload_n hx hb dX4_unloads_29 rfl (lv_at hl 1 rfl) ?_
      refine lM_24 hx hb hK hI hv dX4_unloads_30 ?_
      refine lv_goto (tgt := 35) hx hb dX4_unloads_31 (by decide) ?_
      exact hJ8 (S.1 24 uv.toNatClampNeg) (by exact (if_neg c14).symm)

def M_arrives (S : MS) (uv : Int32) : MS :=
  let x1 := if (S.1 22 uv.toNatClampNeg) = 0 then 0 else 3
  let S3 := mset S 20 uv.toNatClampNeg x1
  let S4 := M_unloads S3 uv (S3.1 22 uv.toNatClampNeg)
  S4
set_option maxHeartbeats 4000000 in
set_option maxRecDepth 100000 in
theorem cM_arrives (G : GX) (ad : Nat → Nat) (S : MS) (uv : Int32) (hv : vp_in uv 16) (hG : GI S) : FC G yX4_arrives cX4_arrives 2 none ({ frames := 1, cells := 0, slots := 0, locals := 22 }) [.ref (ad 0), .int uv] (mW G.2.2.2 ad S) (p0 (mW G.2.2.2 ad (M_arrives S uv))) := by
  refine FC.go (lv := [(0, .ref (ad 0)), (1, .int uv)]) (by decide) (Nat.le_of_ble_eq_true rfl) rfl (fun p e s m args below meth c A H locs ls Q hx hb hr hts hown hml hlocks hnm hK hE hI hA hl hQ => ?_)
  have hown : s.vm.findClass RX4 = some m.cls := hown
  refine lv_aload_n hx hb dX4_arrives_0 rfl (lv_at hl 0 rfl) ?_
  refine gM_60 hx hb hts hown hK hI dX4_arrives_1 ?_
  refine lv_iload_n hx hb dX4_arrives_4 rfl (lv_at hl 1 rfl) ?_
  refine lv_aload_n hx hb dX4_arrives_5 rfl (lv_at hl 0 rfl) ?_
  refine gM_66 hx hb hts hown hK hI dX4_arrives_6 ?_
  refine lv_iload_n hx hb dX4_arrives_9 rfl (lv_at hl 1 rfl) ?_
  refine lM_22 hx hb hK hI hv dX4_arrives_10 ?_
  have hJ2 : ∀ (x1 : Int32), (x1 = if (S.1 22 uv.toNatClampNeg) = 0 then 0 else 3) → W p G.1 e ({ frames := 1, cells := 0, slots := 0, locals := 22 }) s m args below meth c H locs 0 0 Q (F0 m 19 ls [.int x1, .int uv, .ref (ad 20)]) := by
    intro x1 ex1
    obtain ⟨S3, eS3⟩ : ∃ z : MS, z = mset S 20 uv.toNatClampNeg x1 := ⟨_, rfl⟩
    refine sM_20 hx hb hK hI hv eS3 dX4_arrives_19 (fun H locs hI => ?_)
    refine lv_aload_n hx hb dX4_arrives_20 rfl (lv_at hl 0 rfl) ?_
    refine lv_iload_n hx hb dX4_arrives_21 rfl (lv_at hl 1 rfl) ?_
    refine lv_aload_n hx hb dX4_arrives_22 rfl (lv_at hl 0 rfl) ?_
    refine gM_66 hx hb hts hown hK hI dX4_arrives_23 ?_
    refine lv_iload_n hx hb dX4_arrives_26 rfl (lv_at hl 1 rfl) ?_
    refine lM_22 hx hb hK hI hv dX4_arrives_27 ?_
    obtain ⟨S4, eS4⟩ : ∃ z : MS, z = M_unloads S3 uv (S3.1 22 uv.toNatClampNeg) := ⟨_, rfl⟩
    refine cV0 (rest := []) hx hb hml hts hown hK hE hI (cM_unloads G ad S3 uv (S3.1 22 uv.toNatClampNeg) hv (GI_set hG (by decide) (by decide) eS3)) kM_133 ⟨Nat.le_of_ble_eq_true rfl, Nat.le_of_ble_eq_true rfl⟩ rfl rfl (kk := 4) (ii := 0) rfl rfl rfl hl.1 rfl (Nat.le_of_ble_eq_true rfl) dX4_arrives_28 ⟨Nat.zero_le _, Nat.zero_le _⟩ (fun H locs hI => ?_)
    rw [← eS4] at hI
    have HE : M_arrives S uv = S4 := by subst eS4 eS3 ex1; exact rfl
    exact rt_v hx hb hr hlocks hI hA hQ ⟨rfl, by rw [HE]⟩ (Nat.zero_le _) (Nat.zero_le _) dX4_arrives_31
  refine lv_if_eq (tgt := 18) hx hb dX4_arrives_11 (by decide) (fun c5 => ?_) (fun c5 => ?_)
  · refine lv_iconst (v := 0) hx hb dX4_arrives_18 (by decide) ?_
    exact hJ2 0 (by exact (if_pos c5).symm)
  · refine lv_iconst (v := 3) hx hb dX4_arrives_14 (by decide) ?_
    refine lv_goto (tgt := 19) hx hb dX4_arrives_15 (by decide) ?_
    exact hJ2 3 (by exact (if_neg c5).symm)

def M_load (S : MS) (uv : Int32) (ug : Int32) (uk : Int32) : Int32 × MS :=
  if (M_isVehicle S uv) ∧ (M_isGoods S ug) then
    if ((M_isVehicle S uv) ∧ (M_isGoods S ug)) ∧ (M_isIn S uk 1 (S.1 18 uv.toNatClampNeg)) then
      if (S.1 20 uv.toNatClampNeg) = 0 then
        if (S.1 24 uv.toNatClampNeg) ≤ 0 then
          let S8 := mset S 29 0 0
          let S9 := mset S8 24 uv.toNatClampNeg uk
          let S10 := mset S9 25 uv.toNatClampNeg ug
          let S11 := mset S10 26 ug.toNatClampNeg ((S10.1 26 ug.toNatClampNeg) + uk)
          (M_weight S11 uv, S11)
        else
          let S12 := mset S 29 0 3
          (0, S12)
      else
        let S6 := mset S 29 0 3
        (0, S6)
    else
      let S13 := mset S 29 0 2
      (0, S13)
  else
    let S14 := mset S 29 0 1
    (0, S14)
set_option maxHeartbeats 4000000 in
set_option maxRecDepth 100000 in
theorem cM_load (G : GX) (ad : Nat → Nat) (S : MS) (uv : Int32) (ug : Int32) (uk : Int32) {np nv : Nat} (hN : MNn S np nv) : FC G yX4_load cX4_load 6 (some .int) ({ frames := 2, cells := 0, slots := 0, locals := 43 }) [.ref (ad 0), .int uv, .int ug, .int uk] (mW G.2.2.2 ad S) (pv (.int (M_load S uv ug uk).1) (mW G.2.2.2 ad (M_load S uv ug uk).2)) := by
  refine FC.go (lv := [(0, .ref (ad 0)), (1, .int uv), (2, .int ug), (3, .int uk)]) (by decide) (Nat.le_of_ble_eq_true rfl) rfl (fun p e s m args below meth c A H locs ls Q hx hb hr hts hown hml hlocks hnm hK hE hI hA hl hQ => ?_)
  have hown : s.vm.findClass RX4 = some m.cls := hown
  refine lv_aload_n hx hb dX4_load_0 rfl (lv_at hl 0 rfl) ?_
  refine lv_iload_n hx hb dX4_load_1 rfl (lv_at hl 1 rfl) ?_
  refine cVv (rest := []) hx hb hml hts hown hK hE hI (cM_isVehicle G ad S uv) kM_123 ⟨Nat.le_of_ble_eq_true rfl, Nat.le_of_ble_eq_true rfl⟩ rfl rfl (kk := 4) (ii := 0) rfl rfl rfl hl.1 rfl (Nat.le_of_ble_eq_true rfl) dX4_load_2 ⟨Nat.zero_le _, Nat.zero_le _⟩ (fun H locs hI => ?_)
  have hJ1 : ∀ (H : Heap) (locs : List Loc), (fI G.2.2.1 A s.heap (mW G.2.2.2 ad S) H locs) → W p G.1 e ({ frames := 2, cells := 0, slots := 0, locals := 43 }) s m args below meth c H locs 0 0 Q (F0 m 20 ls [.int (bI ((M_isVehicle S uv) ∧ (M_isGoods S ug)))]) := by
    intro H locs hI
    refine lv_istore (lv' := [(4, .int (bI ((M_isVehicle S uv) ∧ (M_isGoods S ug)))), (0, .ref (ad 0)), (1, .int uv), (2, .int ug), (3, .int uk)]) hx hb dX4_load_20 hl (by decide) rfl (fun ls hl => ?_)
    refine lv_iload hx hb dX4_load_22 (lv_at hl 0 rfl) ?_
    have hJ2 : ∀ (H : Heap) (locs : List Loc), (fI G.2.2.1 A s.heap (mW G.2.2.2 ad S) H locs) → W p G.1 e ({ frames := 2, cells := 0, slots := 0, locals := 43 }) s m args below meth c H locs 0 0 Q (F0 m 46 ls [.int (bI (((M_isVehicle S uv) ∧ (M_isGoods S ug)) ∧ (M_isIn S uk 1 (S.1 18 uv.toNatClampNeg))))]) := by
      intro H locs hI
      refine lv_istore (lv' := [(5, .int (bI (((M_isVehicle S uv) ∧ (M_isGoods S ug)) ∧ (M_isIn S uk 1 (S.1 18 uv.toNatClampNeg))))), (4, .int (bI ((M_isVehicle S uv) ∧ (M_isGoods S ug)))), (0, .ref (ad 0)), (1, .int uv), (2, .int ug), (3, .int uk)]) hx hb dX4_load_46 hl (by decide) rfl (fun ls hl => ?_)
      refine lv_aload_n hx hb dX4_load_48 rfl (lv_at hl 2 rfl) ?_
      refine lv_iload hx hb dX4_load_49 (lv_at hl 1 rfl) ?_
      refine xb_ne (tgt := 58) hx hb dX4_load_51 (by decide) (fun c3 => ?_) (fun c3 => ?_)
      · refine lv_iload hx hb dX4_load_58 (lv_at hl 0 rfl) ?_
        refine xb_ne (tgt := 67) hx hb dX4_load_60 (by decide) (fun c4 => ?_) (fun c4 => ?_)
        · refine lv_aload_n hx hb dX4_load_67 rfl (lv_at hl 2 rfl) ?_
          refine gM_60 hx hb hts hown hK hI dX4_load_68 ?_
          refine lv_iload_n hx hb dX4_load_71 rfl (lv_at hl 3 rfl) ?_
          refine lM_20 hx hb hK hI (isVehicle_in hN ((c4).1).1) dX4_load_72 ?_
          refine lv_if_ne (tgt := 85) hx hb dX4_load_73 (by decide) (fun c5 => ?_) (fun c5 => ?_)
          · refine lv_iconst (v := 3) hx hb dX4_load_85 (by decide) ?_
            refine lv_goto (tgt := 90) hx hb dX4_load_86 (by decide) ?_
            obtain ⟨S6, eS6⟩ : ∃ z : MS, z = mset S 29 0 3 := ⟨_, rfl⟩
            refine cVv (rest := []) hx hb hml hts hown hK hE hI (cM_fails3 G ad S) kM_101 ⟨Nat.le_of_ble_eq_true rfl, Nat.le_of_ble_eq_true rfl⟩ rfl rfl (kk := 4) (ii := 0) rfl rfl rfl hl.1 rfl (Nat.le_of_ble_eq_true rfl) dX4_load_90 ⟨Nat.zero_le _, Nat.zero_le _⟩ (fun H locs hI => ?_)
            rw [← eS6] at hI
            refine lv_if_eq (tgt := 98) hx hb dX4_load_93 (by decide) (fun h => absurd h (by decide)) (fun _ => ?_)
            refine lv_iconst (v := 0) hx hb dX4_load_96 (by decide) ?_
            have HE : M_load S uv ug uk = (0, S6) := by subst eS6; exact (if_pos c3).trans ((if_pos c4).trans ((if_neg c5)))
            exact rt_i hx hb hr hlocks hI hA hQ ⟨by rw [HE], by rw [HE]⟩ (Nat.zero_le _) (Nat.zero_le _) dX4_load_97
          · refine lv_aload_n hx hb dX4_load_76 rfl (lv_at hl 2 rfl) ?_
            refine gM_73 hx hb hts hown hK hI dX4_load_77 ?_
            refine lv_iload_n hx hb dX4_load_80 rfl (lv_at hl 3 rfl) ?_
            refine lM_24 hx hb hK hI (isVehicle_in hN ((c4).1).1) dX4_load_81 ?_
            refine lv_if_le (tgt := 89) hx hb dX4_load_82 (by decide) (fun c7 => ?_) (fun c7 => ?_)
            · refine lv_iconst (v := 0) hx hb dX4_load_89 (by decide) ?_
              obtain ⟨S8, eS8⟩ : ∃ z : MS, z = mset S 29 0 0 := ⟨_, rfl⟩
              refine cVv (rest := []) hx hb hml hts hown hK hE hI (cM_fails0 G ad S) kM_101 ⟨Nat.le_of_ble_eq_true rfl, Nat.le_of_ble_eq_true rfl⟩ rfl rfl (kk := 4) (ii := 0) rfl rfl rfl hl.1 rfl (Nat.le_of_ble_eq_true rfl) dX4_load_90 ⟨Nat.zero_le _, Nat.zero_le _⟩ (fun H locs hI => ?_)
              rw [← eS8] at hI
              refine lv_if_eq (tgt := 98) hx hb dX4_load_93 (by decide) (fun _ => ?_) (fun h => absurd h (by decide))
              refine lv_aload_n hx hb dX4_load_98 rfl (lv_at hl 2 rfl) ?_
              refine gM_73 hx hb hts hown hK hI dX4_load_99 ?_
              refine lv_iload_n hx hb dX4_load_102 rfl (lv_at hl 3 rfl) ?_
              refine lv_iload_n hx hb dX4_load_103 rfl (lv_at hl 5 rfl) ?_
              obtain ⟨S9, eS9⟩ : ∃ z : MS, z = mset S8 24 uv.toNatClampNeg uk := ⟨_, rfl⟩
              refine sM_24 hx hb hK hI (isVehicle_in hN ((c4).1).1) eS9 dX4_load_104 (fun H locs hI => ?_)
              refine lv_aload_n hx hb dX4_load_105 rfl (lv_at hl 2 rfl) ?_
              refine gM_76 hx hb hts hown hK hI dX4_load_106 ?_
              refine lv_iload_n hx hb dX4_load_109 rfl (lv_at hl 3 rfl) ?_
              refine lv_iload_n hx hb dX4_load_110 rfl (lv_at hl 4 rfl) ?_
              obtain ⟨S10, eS10⟩ : ∃ z : MS, z = mset S9 25 uv.toNatClampNeg ug := ⟨_, rfl⟩
              refine sM_25 hx hb hK hI (isVehicle_in hN ((c4).1).1) eS10 dX4_load_111 (fun H locs hI => ?_)
              refine lv_aload_n hx hb dX4_load_112 rfl (lv_at hl 2 rfl) ?_
              refine gM_79 hx hb hts hown hK hI dX4_load_113 ?_
              refine lv_iload_n hx hb dX4_load_116 rfl (lv_at hl 4 rfl) ?_
              refine lv_dup2_11 hx hb dX4_load_117 rfl rfl ?_
              refine lM_26 hx hb hK hI (isGoods_in ((c4).1).2) dX4_load_118 ?_
              refine lv_iload_n hx hb dX4_load_119 rfl (lv_at hl 5 rfl) ?_
              refine lv_iadd hx hb dX4_load_120 ?_
              obtain ⟨S11, eS11⟩ : ∃ z : MS, z = mset S10 26 ug.toNatClampNeg ((S10.1 26 ug.toNatClampNeg) + uk) := ⟨_, rfl⟩
              refine sM_26 hx hb hK hI (isGoods_in ((c4).1).2) eS11 dX4_load_121 (fun H locs hI => ?_)
              refine lv_aload_n hx hb dX4_load_122 rfl (lv_at hl 2 rfl) ?_
              refine lv_iload_n hx hb dX4_load_123 rfl (lv_at hl 3 rfl) ?_
              refine cVv (rest := []) hx hb hml hts hown hK hE hI (cM_weight G ad S11 uv (isVehicle_in hN ((c4).1).1)) kM_129 ⟨Nat.le_of_ble_eq_true rfl, Nat.le_of_ble_eq_true rfl⟩ rfl rfl (kk := 4) (ii := 0) rfl rfl rfl hl.1 rfl (Nat.le_of_ble_eq_true rfl) dX4_load_124 ⟨Nat.zero_le _, Nat.zero_le _⟩ (fun H locs hI => ?_)
              have HE : M_load S uv ug uk = (M_weight S11 uv, S11) := by subst eS11 eS10 eS9 eS8; exact (if_pos c3).trans ((if_pos c4).trans ((if_pos c5).trans ((if_pos c7))))
              exact rt_i hx hb hr hlocks hI hA hQ ⟨by rw [HE], by rw [HE]⟩ (Nat.zero_le _) (Nat.zero_le _) dX4_load_127
            · refine lv_iconst (v := 3) hx hb dX4_load_85 (by decide) ?_
              refine lv_goto (tgt := 90) hx hb dX4_load_86 (by decide) ?_
              obtain ⟨S12, eS12⟩ : ∃ z : MS, z = mset S 29 0 3 := ⟨_, rfl⟩
              refine cVv (rest := []) hx hb hml hts hown hK hE hI (cM_fails3 G ad S) kM_101 ⟨Nat.le_of_ble_eq_true rfl, Nat.le_of_ble_eq_true rfl⟩ rfl rfl (kk := 4) (ii := 0) rfl rfl rfl hl.1 rfl (Nat.le_of_ble_eq_true rfl) dX4_load_90 ⟨Nat.zero_le _, Nat.zero_le _⟩ (fun H locs hI => ?_)
              rw [← eS12] at hI
              refine lv_if_eq (tgt := 98) hx hb dX4_load_93 (by decide) (fun h => absurd h (by decide)) (fun _ => ?_)
              refine lv_iconst (v := 0) hx hb dX4_load_96 (by decide) ?_
              have HE : M_load S uv ug uk = (0, S12) := by subst eS12; exact (if_pos c3).trans ((if_pos c4).trans ((if_pos c5).trans ((if_neg c7))))
              exact rt_i hx hb hr hlocks hI hA hQ ⟨by rw [HE], by rw [HE]⟩ (Nat.zero_le _) (Nat.zero_le _) dX4_load_97
        · refine lv_iconst (v := 2) hx hb dX4_load_63 (by decide) ?_
          refine lv_goto (tgt := 90) hx hb dX4_load_64 (by decide) ?_
          obtain ⟨S13, eS13⟩ : ∃ z : MS, z = mset S 29 0 2 := ⟨_, rfl⟩
          refine cVv (rest := []) hx hb hml hts hown hK hE hI (cM_fails2 G ad S) kM_101 ⟨Nat.le_of_ble_eq_true rfl, Nat.le_of_ble_eq_true rfl⟩ rfl rfl (kk := 4) (ii := 0) rfl rfl rfl hl.1 rfl (Nat.le_of_ble_eq_true rfl) dX4_load_90 ⟨Nat.zero_le _, Nat.zero_le _⟩ (fun H locs hI => ?_)
          rw [← eS13] at hI
          refine lv_if_eq (tgt := 98) hx hb dX4_load_93 (by decide) (fun h => absurd h (by decide)) (fun _ => ?_)
          refine lv_iconst (v := 0) hx hb dX4_load_96 (by decide) ?_
          have HE : M_load S uv ug uk = (0, S13) := by subst eS13; exact (if_pos c3).trans ((if_neg c4))
          exact rt_i hx hb hr hlocks hI hA hQ ⟨by rw [HE], by rw [HE]⟩ (Nat.zero_le _) (Nat.zero_le _) dX4_load_97
      · refine lv_iconst (v := 1) hx hb dX4_load_54 (by decide) ?_
        refine lv_goto (tgt := 90) hx hb dX4_load_55 (by decide) ?_
        obtain ⟨S14, eS14⟩ : ∃ z : MS, z = mset S 29 0 1 := ⟨_, rfl⟩
        refine cVv (rest := []) hx hb hml hts hown hK hE hI (cM_fails1 G ad S) kM_101 ⟨Nat.le_of_ble_eq_true rfl, Nat.le_of_ble_eq_true rfl⟩ rfl rfl (kk := 4) (ii := 0) rfl rfl rfl hl.1 rfl (Nat.le_of_ble_eq_true rfl) dX4_load_90 ⟨Nat.zero_le _, Nat.zero_le _⟩ (fun H locs hI => ?_)
        rw [← eS14] at hI
        refine lv_if_eq (tgt := 98) hx hb dX4_load_93 (by decide) (fun h => absurd h (by decide)) (fun _ => ?_)
        refine lv_iconst (v := 0) hx hb dX4_load_96 (by decide) ?_
        have HE : M_load S uv ug uk = (0, S14) := by subst eS14; exact (if_neg c3)
        exact rt_i hx hb hr hlocks hI hA hQ ⟨by rw [HE], by rw [HE]⟩ (Nat.zero_le _) (Nat.zero_le _) dX4_load_97
    refine xb_eq (tgt := 45) hx hb dX4_load_24 (by decide) (fun c15 => ?_) (fun c15 => ?_)
    · refine lv_iconst (v := 0) hx hb dX4_load_45 (by decide) ?_
      have eb16 : (0 : Int32) = bI (((M_isVehicle S uv) ∧ (M_isGoods S ug)) ∧ (M_isIn S uk 1 (S.1 18 uv.toNatClampNeg))) := (bI_f (fun k => c15 k.1)).symm
      rw [eb16]
      exact hJ2 _ _ hI
    · refine lv_iload_n hx hb dX4_load_27 rfl (lv_at hl 4 rfl) ?_
      refine lv_iconst (v := 1) hx hb dX4_load_28 (by decide) ?_
      refine lv_aload_n hx hb dX4_load_29 rfl (lv_at hl 1 rfl) ?_
      refine gM_54 hx hb hts hown hK hI dX4_load_30 ?_
      refine lv_iload_n hx hb dX4_load_33 rfl (lv_at hl 2 rfl) ?_
      refine lM_18 hx hb hK hI (isVehicle_in hN (c15).1) dX4_load_34 ?_
      refine cSv (rest := []) hx hb hml hts hown hK hE hI (cM_isIn G ad S uk 1 (S.1 18 uv.toNatClampNeg)) kM_94 ⟨Nat.le_of_ble_eq_true rfl, Nat.le_of_ble_eq_true rfl⟩ rfl rfl hl.1 rfl (Nat.le_of_ble_eq_true rfl) dX4_load_35 ⟨Nat.zero_le _, Nat.zero_le _⟩ (fun H locs hI => ?_)
      refine xb_eq (tgt := 45) hx hb dX4_load_38 (by decide) (fun c17 => ?_) (fun c17 => ?_)
      · refine lv_iconst (v := 0) hx hb dX4_load_45 (by decide) ?_
        have eb18 : (0 : Int32) = bI (((M_isVehicle S uv) ∧ (M_isGoods S ug)) ∧ (M_isIn S uk 1 (S.1 18 uv.toNatClampNeg))) := (bI_f (fun k => c17 k.2)).symm
        rw [eb18]
        exact hJ2 _ _ hI
      · refine lv_iconst (v := 1) hx hb dX4_load_41 (by decide) ?_
        refine lv_goto (tgt := 46) hx hb dX4_load_42 (by decide) ?_
        have eb19 : (1 : Int32) = bI (((M_isVehicle S uv) ∧ (M_isGoods S ug)) ∧ (M_isIn S uk 1 (S.1 18 uv.toNatClampNeg))) := (bI_t ⟨c15, c17⟩).symm
        rw [eb19]
        exact hJ2 _ _ hI
  refine xb_eq (tgt := 19) hx hb dX4_load_5 (by decide) (fun c20 => ?_) (fun c20 => ?_)
  · refine lv_iconst (v := 0) hx hb dX4_load_19 (by decide) ?_
    have eb21 : (0 : Int32) = bI ((M_isVehicle S uv) ∧ (M_isGoods S ug)) := (bI_f (fun k => c20 k.1)).symm
    rw [eb21]
    exact hJ1 _ _ hI
  · refine lv_iload_n hx hb dX4_load_8 rfl (lv_at hl 2 rfl) ?_
    refine cSv (rest := []) hx hb hml hts hown hK hE hI (cM_isGoods G ad S ug) kM_126 ⟨Nat.le_of_ble_eq_true rfl, Nat.le_of_ble_eq_true rfl⟩ rfl rfl hl.1 rfl (Nat.le_of_ble_eq_true rfl) dX4_load_9 ⟨Nat.zero_le _, Nat.zero_le _⟩ (fun H locs hI => ?_)
    refine xb_eq (tgt := 19) hx hb dX4_load_12 (by decide) (fun c22 => ?_) (fun c22 => ?_)
    · refine lv_iconst (v := 0) hx hb dX4_load_19 (by decide) ?_
      have eb23 : (0 : Int32) = bI ((M_isVehicle S uv) ∧ (M_isGoods S ug)) := (bI_f (fun k => c22 k.2)).symm
      rw [eb23]
      exact hJ1 _ _ hI
    · refine lv_iconst (v := 1) hx hb dX4_load_15 (by decide) ?_
      refine lv_goto (tgt := 20) hx hb dX4_load_16 (by decide) ?_
      have eb24 : (1 : Int32) = bI ((M_isVehicle S uv) ∧ (M_isGoods S ug)) := (bI_t ⟨c20, c22⟩).symm
      rw [eb24]
      exact hJ1 _ _ hI
