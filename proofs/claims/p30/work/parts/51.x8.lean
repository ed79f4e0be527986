def X_snow_s (S3 : XS) (Z : XZ) (uk : Int32) (n : Nat) : XS :=
  let S5 := xset S3 1 n 6 ((S3.1 1 n 6) + uk)
  let x6 := (nI n) + 1
  S5
def X_snow_f (S : XS) (Z : XZ) (uk : Int32) : Nat → XS
  | 0 => S
  | n + 1 => X_snow_s (X_snow_f S Z uk n) Z uk n

def X_snow (Z : XZ) (S : XS) (uk : Int32) : Option String × Int32 × XS :=
  if X_needRange Z S uk 1 500 = none then
    let S3 := X_snow_f S Z uk (Z.N 0)
    (none, nI (Z.N 0), S3)
  else
    (X_needRange Z S uk 1 500, 0, S)
set_option maxHeartbeats 4000000 in
set_option maxRecDepth 100000 in
theorem cX_snow (G : GX) (hst : G.1.stackTraces = false) (Z : XZ) (S : XS) (uk : Int32) (hWZ : WZ Z) : FX G yX3_snow cX3_snow 3 (some .int) ({ frames := 7, cells := 1, slots := 6, locals := 104 }) [.ref (Z.A 0 0), .int uk] (xW G.2.2.2 G.2.1 Z S) (pvx (X_snow Z S uk).1 (.int (X_snow Z S uk).2.1) (xW G.2.2.2 G.2.1 Z (X_snow Z S uk).2.2)) (px (X_snow Z S uk).1 (xW G.2.2.2 G.2.1 Z S)) := by
  refine FX.go (lv := [(0, .ref (Z.A 0 0)), (1, .int uk)]) (by decide) (Nat.le_of_ble_eq_true rfl) rfl (fun p e s m args below meth c A H locs ls Q hx hb hr hts hown hml hlocks hout hK hE hI hA hl hQ => ?_)
  have hown : s.vm.findClass RX3 = some m.cls := hown
  have hz9 := hWZ.n0
  have hz8 := hWZ.n1
  have hz7 := hWZ.n2
  refine lv_iload_n hx hb dX3_snow_0 rfl (lv_at hl 1 rfl) ?_
  refine lv_iconst (v := 1) hx hb dX3_snow_1 (by decide) ?_
  refine lv_sipush (v := 500) hx hb dX3_snow_2 (by decide) ?_
  refine dxS0 (rest := []) hx hb hml hts hown hK hE hI (cX_needRange G hst Z S uk 1 500) kX3_42 ⟨Nat.le_of_ble_eq_true rfl, Nat.le_of_ble_eq_true rfl⟩ hl.1 rfl (Nat.le_of_ble_eq_true rfl) dX3_snow_5 ⟨Nat.le_of_ble_eq_true rfl, Nat.le_of_ble_eq_true rfl⟩ (fun E9 ce q9 H locs h9 hI g1 g2 g3 => ?_) (fun t1 H locs hI => ?_)
  · have n9 : ¬ (X_needRange Z S uk 1 500) = none := fun z => by rw [h9] at z; cases z
    have HE : X_snow Z S uk = (X_needRange Z S uk 1 500, 0, S) := by exact (if_neg n9)
    exact rx_thru hout hlocks hI hA hQ ⟨by rw [HE]; exact h9, rfl⟩ (Nat.le_of_ble_eq_true rfl) (Nat.le_of_ble_eq_true rfl) g1 g2 g3
  · refine lv_iconst (v := 0) hx hb dX3_snow_8 (by decide) ?_
    refine lv_istore_n (lv' := [(2, .int 0), (0, .ref (Z.A 0 0)), (1, .int uk)]) hx hb dX3_snow_9 rfl hl (by decide) rfl (fun ls hl => ?_)
    have hL4 : ∀ (k n : Nat), n + k = Z.N 0 → ∀ (i_ : Int32) (S3 : XS) (H : Heap) (locs : List Loc) (ls : Array Slot), (i_ = nI n) → (S3 = X_snow_f S Z uk n) → (fI G.2.2.1 A s.heap (xW G.2.2.2 G.2.1 Z S3) H locs) → (lv_has ls 3 [(2, .int i_), (0, .ref (Z.A 0 0)), (1, .int uk)]) → W p G.1 e ({ frames := 7, cells := 1, slots := 6, locals := 104 }) s m args below meth c H locs 1 6 Q (F0 m 10 ls []) := by
      intro k
      induction k with
      | zero =>
        intro n hnk i_ S3 H locs ls ei eS3 hI hl
        subst ei
        have hz9 := hWZ.n0
        refine lv_iload_n hx hb dX3_snow_10 rfl (lv_at hl 0 rfl) ?_
        refine lv_aload_n hx hb dX3_snow_11 rfl (lv_at hl 1 rfl) ?_
        refine gX3_10 (i := 0) hx hb hts hown hK hI (by decide) dX3_snow_12 ?_
        refine cFv (rest := [.int (nI n)]) hx hb hml hts hown hK hE hI (cL_size G Z S3 0 (by decide)) kF_46 ⟨Nat.le_of_ble_eq_true rfl, Nat.le_of_ble_eq_true rfl⟩ rfl rfl (kk := 6) (ii := 0) (xW6 (by decide)) rfl rfl hl.1 rfl (Nat.le_of_ble_eq_true rfl) dX3_snow_15 ⟨Nat.le_of_ble_eq_true rfl, Nat.le_of_ble_eq_true rfl⟩ (fun H locs hI => ?_)
        refine lv_icmp_ge (tgt := 51) hx hb dX3_snow_20 (by decide) (fun _ => ?_) (fun h => absurd (by rw [(rfl : nI (Z.N 0) = nI (Z.N 0))]; exact nI_le (by omega) (by omega)) h)
        have hn9 : n = (Z.N 0) := by omega
        rw [hn9] at eS3
        have hl : lv_has ls 3 [(0, .ref (Z.A 0 0)), (1, .int uk)] := lv_sub hl [1, 2] rfl
        refine lv_aload_n hx hb dX3_snow_51 rfl (lv_at hl 0 rfl) ?_
        refine gX3_10 (i := 0) hx hb hts hown hK hI (by decide) dX3_snow_52 ?_
        refine cFv (rest := []) hx hb hml hts hown hK hE hI (cL_size G Z S3 0 (by decide)) kF_46 ⟨Nat.le_of_ble_eq_true rfl, Nat.le_of_ble_eq_true rfl⟩ rfl rfl (kk := 6) (ii := 0) (xW6 (by decide)) rfl rfl hl.1 rfl (Nat.le_of_ble_eq_true rfl) dX3_snow_55 ⟨Nat.le_of_ble_eq_true rfl, Nat.le_of_ble_eq_true rfl⟩ (fun H locs hI => ?_)
        have HE : X_snow Z S uk = (none, nI (Z.N 0), S3) := by subst eS3; exact (if_pos t1)
        exact rx_i hx hb hr hlocks hI hA hQ ⟨by rw [HE], by rw [HE], by rw [HE]⟩ (Nat.le_of_ble_eq_true rfl) (Nat.le_of_ble_eq_true rfl) dX3_snow_60
      | succ k ih =>
        intro n hnk i_ S3 H locs ls ei eS3 hI hl
        subst ei
        have hz9 := hWZ.n0
        refine lv_iload_n hx hb dX3_snow_10 rfl (lv_at hl 0 rfl) ?_
        refine lv_aload_n hx hb dX3_snow_11 rfl (lv_at hl 1 rfl) ?_
        refine gX3_10 (i := 0) hx hb hts hown hK hI (by decide) dX3_snow_12 ?_
        refine cFv (rest := [.int (nI n)]) hx hb hml hts hown hK hE hI (cL_size G Z S3 0 (by decide)) kF_46 ⟨Nat.le_of_ble_eq_true rfl, Nat.le_of_ble_eq_true rfl⟩ rfl rfl (kk := 6) (ii := 0) (xW6 (by decide)) rfl rfl hl.1 rfl (Nat.le_of_ble_eq_true rfl) dX3_snow_15 ⟨Nat.le_of_ble_eq_true rfl, Nat.le_of_ble_eq_true rfl⟩ (fun H locs hI => ?_)
        refine lv_icmp_ge (tgt := 51) hx hb dX3_snow_20 (by decide) (fun h => absurd h (by rw [(rfl : nI (Z.N 0) = nI (Z.N 0))]; exact nI_ge (by omega) (by omega))) (fun _ => ?_)
        refine lv_aload_n hx hb dX3_snow_23 rfl (lv_at hl 1 rfl) ?_
        refine gX3_10 (i := 0) hx hb hts hown hK hI (by decide) dX3_snow_24 ?_
        refine lv_iload_n hx hb dX3_snow_27 rfl (lv_at hl 0 rfl) ?_
        refine cFv (rest := []) hx hb hml hts hown hK hE hI (cL_get G Z S3 0 (nI n) (by decide) (WZ.P hWZ 0 (by decide)) (vp_in_nI (by omega) hWZ.n0)) kF_71 ⟨Nat.le_of_ble_eq_true rfl, Nat.le_of_ble_eq_true rfl⟩ rfl rfl (kk := 6) (ii := 0) (xW6 (by decide)) rfl rfl hl.1 rfl (Nat.le_of_ble_eq_true rfl) dX3_snow_28 ⟨Nat.le_of_ble_eq_true rfl, Nat.le_of_ble_eq_true rfl⟩ (fun H locs hI => ?_)
        rw [nI_clamp (show n < 2 ^ 31 by have := hWZ.n0; omega)]
        refine va_castE hx hb hown (hts _ q215) (fx_recv hK hI.1 (xW1 (show n < Z.O 1 by have := hWZ.1; omega)) (q := (RX1, TX1, 16)) rfl) dX3_snow_33 ?_
        refine lv_dup hx hb dX3_snow_36 rfl ?_
        refine gX3_75 (i := n) hx hb hts hown hK hI (show n < Z.O 1 by have := hWZ.1; omega) dX3_snow_37 ?_
        refine lv_iload_n hx hb dX3_snow_40 rfl (lv_at hl 2 rfl) ?_
        refine lv_iadd hx hb dX3_snow_41 ?_
        obtain ⟨S5, eS5⟩ : ∃ z : XS, z = xset S3 1 n 6 ((S3.1 1 n 6) + uk) := ⟨_, rfl⟩
        refine pX3_75 (i := n) hx hb hts hown hK hI (show n < Z.O 1 by have := hWZ.1; omega) eS5 dX3_snow_42 (fun H locs hI => ?_)
        obtain ⟨x6, ex6⟩ : ∃ z : Int32, z = (nI n) + 1 := ⟨_, rfl⟩
        refine lv_iinc (v := x6) (lv' := [(2, .int x6), (0, .ref (Z.A 0 0)), (1, .int uk)]) hx hb dX3_snow_45 hl (k := 0) rfl (by rw [ex6]; rfl) (by decide) rfl (fun ls hl => ?_)
        refine lv_goto (tgt := 10) hx hb dX3_snow_48 (by decide) ?_
        have HE : X_snow_s S3 Z uk n = S5 := by subst ex6 eS5; exact rfl
        exact ih (n + 1) (by omega) x6 S5 H locs ls (by rw [ex6]; exact nI_1 n) (by show _ = X_snow_s (X_snow_f S Z uk n) Z uk n; rw [← eS3]; exact HE.symm) hI (lv_sub hl [0, 1, 2] rfl)
    exact hL4 (Z.N 0) 0 (by omega) 0 S H locs ls nI_0.symm rfl hI (lv_sub hl [0, 1, 2] rfl)

def X_pass_s (S4 : XS) (Z : XZ) (n : Nat) : XS :=
  let S6 := X_passOneMinute Z S4
  let x7 := (nI n) + 1
  S6
def X_pass_f (S : XS) (Z : XZ) : Nat → XS
  | 0 => S
  | n + 1 => X_pass_s (X_pass_f S Z n) Z n

def X_pass (Z : XZ) (S : XS) (uk : Int32) : Option String × Int32 × XS :=
  if X_needRange Z S uk 1 3000 = none then
    if ((S.1 0 0 6) + uk) ≤ 200000 then
      let S4 := X_pass_f S Z uk.toNatClampNeg
      (none, S4.1 0 0 6, S4)
    else
      ((some EISE), 0, S)
  else
    (X_needRange Z S uk 1 3000, 0, S)
theorem CW_pass_f {Z : XZ} {S : XS} (h : CW Z S) (n : Nat) : CW Z (X_pass_f S Z n) := by
  induction n with
  | zero => exact h
  | succ n ih => exact CW_passOneMinute ih
set_option maxHeartbeats 4000000 in
set_option maxRecDepth 100000 in
theorem cX_pass (G : GX) (hst : G.1.stackTraces = false) (Z : XZ) (S : XS) (uk : Int32) (hWZ : WZ Z) (hC : CW Z S) : FX G yX3_pass cX3_pass 3 (some .int) ({ frames := 7, cells := 2, slots := 12, locals := 152 }) [.ref (Z.A 0 0), .int uk] (xW G.2.2.2 G.2.1 Z S) (pvx (X_pass Z S uk).1 (.int (X_pass Z S uk).2.1) (xW G.2.2.2 G.2.1 Z (X_pass Z S uk).2.2)) (px (X_pass Z S uk).1 (xW G.2.2.2 G.2.1 Z S)) := by
  refine FX.go (lv := [(0, .ref (Z.A 0 0)), (1, .int uk)]) (by decide) (Nat.le_of_ble_eq_true rfl) rfl (fun p e s m args below meth c A H locs ls Q hx hb hr hts hown hml hlocks hout hK hE hI hA hl hQ => ?_)
  have hown : s.vm.findClass RX3 = some m.cls := hown
  have hz9 := hWZ.n0
  have hz8 := hWZ.n1
  have hz7 := hWZ.n2
  refine lv_iload_n hx hb dX3_pass_0 rfl (lv_at hl 1 rfl) ?_
  refine lv_iconst (v := 1) hx hb dX3_pass_1 (by decide) ?_
  refine lv_sipush (v := 3000) hx hb dX3_pass_2 (by decide) ?_
  refine dxS0 (rest := []) hx hb hml hts hown hK hE hI (cX_needRange G hst Z S uk 1 3000) kX3_42 ⟨Nat.le_of_ble_eq_true rfl, Nat.le_of_ble_eq_true rfl⟩ hl.1 rfl (Nat.le_of_ble_eq_true rfl) dX3_pass_5 ⟨Nat.le_of_ble_eq_true rfl, Nat.le_of_ble_eq_true rfl⟩ (fun E9 ce q9 H locs h9 hI g1 g2 g3 => ?_) (fun t1 H locs hI => ?_)
  · have n9 : ¬ (X_needRange Z S uk 1 3000) = none := fun z => by rw [h9] at z; cases z
    have HE : X_pass Z S uk = (X_needRange Z S uk 1 3000, 0, S) := by exact (if_neg n9)
    exact rx_thru hout hlocks hI hA hQ ⟨by rw [HE]; exact h9, rfl⟩ (Nat.le_of_ble_eq_true rfl) (Nat.le_of_ble_eq_true rfl) g1 g2 g3
  · refine lv_aload_n hx hb dX3_pass_8 rfl (lv_at hl 0 rfl) ?_
    refine gX3_32 (i := 0) hx hb hts hown hK hI (by decide) dX3_pass_9 ?_
    refine lv_iload_n hx hb dX3_pass_12 rfl (lv_at hl 1 rfl) ?_
    refine lv_iadd hx hb dX3_pass_13 ?_
    refine lv_ldc (v := 200000) hx hb hown (hts _ q540) dX3_pass_14 ?_
    refine lv_icmp_le (tgt := 29) hx hb dX3_pass_16 (by decide) (fun c2 => ?_) (fun c2 => ?_)
    · refine lv_iconst (v := 0) hx hb dX3_pass_29 (by decide) ?_
      refine lv_istore_n (lv' := [(2, .int 0), (0, .ref (Z.A 0 0)), (1, .int uk)]) hx hb dX3_pass_30 rfl hl (by decide) rfl (fun ls hl => ?_)
      obtain ⟨N, eN, hN9⟩ := nR_nI t1
      have hL5 : ∀ (k n : Nat), n + k = N → ∀ (i_ : Int32) (S4 : XS) (H : Heap) (locs : List Loc) (ls : Array Slot), (i_ = nI n) → (S4 = X_pass_f S Z n) → (fI G.2.2.1 A s.heap (xW G.2.2.2 G.2.1 Z S4) H locs) → (lv_has ls 3 [(2, .int i_), (0, .ref (Z.A 0 0)), (1, .int uk)]) → W p G.1 e ({ frames := 7, cells := 2, slots := 12, locals := 152 }) s m args below meth c H locs 1 6 Q (F0 m 31 ls []) := by
        intro k
        induction k with
        | zero =>
          intro n hnk i_ S4 H locs ls ei eS4 hI hl
          subst ei
          have hC2 : CW Z S4 := by rw [eS4]; exact CW_pass_f hC n
          refine lv_iload_n hx hb dX3_pass_31 rfl (lv_at hl 0 rfl) ?_
          refine lv_iload_n hx hb dX3_pass_32 rfl (lv_at hl 2 rfl) ?_
          refine lv_icmp_ge (tgt := 46) hx hb dX3_pass_33 (by decide) (fun _ => ?_) (fun h => absurd (by rw [eN]; exact nI_le (by omega) (by omega)) h)
          have hn9 : n = uk.toNatClampNeg := by rw [eN, nI_clamp (by omega)]; omega
          rw [hn9] at eS4
          have hl : lv_has ls 3 [(0, .ref (Z.A 0 0)), (1, .int uk)] := lv_sub hl [1, 2] rfl
          refine lv_aload_n hx hb dX3_pass_46 rfl (lv_at hl 0 rfl) ?_
          refine gX3_32 (i := 0) hx hb hts hown hK hI (by decide) dX3_pass_47 ?_
          have HE : X_pass Z S uk = (none, S4.1 0 0 6, S4) := by subst eS4; exact (if_pos t1).trans ((if_pos c2))
          exact rx_i hx hb hr hlocks hI hA hQ ⟨by rw [HE], by rw [HE], by rw [HE]⟩ (Nat.le_of_ble_eq_true rfl) (Nat.le_of_ble_eq_true rfl) dX3_pass_50
        | succ k ih =>
          intro n hnk i_ S4 H locs ls ei eS4 hI hl
          subst ei
          have hC2 : CW Z S4 := by rw [eS4]; exact CW_pass_f hC n
          refine lv_iload_n hx hb dX3_pass_31 rfl (lv_at hl 0 rfl) ?_
          refine lv_iload_n hx hb dX3_pass_32 rfl (lv_at hl 2 rfl) ?_
          refine lv_icmp_ge (tgt := 46) hx hb dX3_pass_33 (by decide) (fun h => absurd h (by rw [eN]; exact nI_ge (by omega) (by omega))) (fun _ => ?_)
          refine lv_aload_n hx hb dX3_pass_36 rfl (lv_at hl 1 rfl) ?_
          obtain ⟨S6, eS6⟩ : ∃ z : XS, z = X_passOneMinute Z S4 := ⟨_, rfl⟩
          refine cV0 (rest := []) hx hb hml hts hown hK hE hI (cX_passOneMinute G Z S4 hWZ hC2) kX3_161 ⟨Nat.le_of_ble_eq_true rfl, Nat.le_of_ble_eq_true rfl⟩ rfl rfl (kk := 0) (ii := 0) (xW0 (by decide)) rfl rfl hl.1 rfl (Nat.le_of_ble_eq_true rfl) dX3_pass_37 ⟨Nat.le_of_ble_eq_true rfl, Nat.le_of_ble_eq_true rfl⟩ (fun H locs hI => ?_)
          rw [← eS6] at hI
          obtain ⟨x7, ex7⟩ : ∃ z : Int32, z = (nI n) + 1 := ⟨_, rfl⟩
          refine lv_iinc (v := x7) (lv' := [(2, .int x7), (0, .ref (Z.A 0 0)), (1, .int uk)]) hx hb dX3_pass_40 hl (k := 0) rfl (by rw [ex7]; rfl) (by decide) rfl (fun ls hl => ?_)
          refine lv_goto (tgt := 31) hx hb dX3_pass_43 (by decide) ?_
          have HE : X_pass_s S4 Z n = S6 := by subst ex7 eS6; exact rfl
          exact ih (n + 1) (by omega) x7 S6 H locs ls (by rw [ex7]; exact nI_1 n) (by show _ = X_pass_s (X_pass_f S Z n) Z n; rw [← eS4]; exact HE.symm) hI (lv_sub hl [0, 1, 2] rfl)
      exact hL5 N 0 (by omega) 0 S H locs ls nI_0.symm rfl hI (lv_sub hl [0, 1, 2] rfl)
    · have HE : X_pass Z S uk = ((some EISE), 0, S) := by exact (if_pos t1).trans ((if_neg c2))
      exact fx_throw hx hb hst hts hown hE hI hA hQ (by decide +kernel) q199 q9 at_ISE go_ISE (text := "the minute would be too high") (List.mem_of_getElem? (i := 11) rfl) ⟨by rw [HE]; rfl, rfl⟩ (hl.1.trans hml.symm) hout hlocks (Nat.le_of_ble_eq_true rfl) (Nat.le_of_ble_eq_true rfl) (Nat.le_of_ble_eq_true rfl) (Nat.le_of_ble_eq_true rfl) (Nat.le_of_ble_eq_true rfl) (Nat.le_of_ble_eq_true rfl) dX3_pass_19 dX3_pass_22 dX3_pass_23 dX3_pass_25 dX3_pass_28

def X_kilosAnew_s (Z : XZ) (S : XS) (ug : Int32) (n : Nat) (a2 : Int32) : Int32 :=
  let x4 := if (S.1 3 n 0) = ug then (if (S.1 3 n 2) = 0 then (a2 + (S.1 3 n 1)) else a2) else a2
  let x6 := (nI n) + 1
  x4
def X_kilosAnew_f (Z : XZ) (S : XS) (ug : Int32) : Nat → Int32
  | 0 => 0
  | n + 1 => X_kilosAnew_s Z S ug n (X_kilosAnew_f Z S ug n)

def X_kilosAnew (Z : XZ) (S : XS) (ug : Int32) : Option String × Int32 :=
  if X_needGoods Z S ug = none then
    let a2 := X_kilosAnew_f Z S ug (Z.N 2)
    (none, a2)
  else
    (X_needGoods Z S ug, 0)
set_option maxHeartbeats 4000000 in
set_option maxRecDepth 100000 in
theorem cX_kilosAnew (G : GX) (hst : G.1.stackTraces = false) (Z : XZ) (S : XS) (ug : Int32) (hWZ : WZ Z) : FX G yX3_kilosAnew cX3_kilosAnew 5 (some .int) ({ frames := 7, cells := 1, slots := 6, locals := 102 }) [.ref (Z.A 0 0), .int ug] (xW G.2.2.2 G.2.1 Z S) (pvx (X_kilosAnew Z S ug).1 (.int (X_kilosAnew Z S ug).2) (xW G.2.2.2 G.2.1 Z S)) (px (X_kilosAnew Z S ug).1 (xW G.2.2.2 G.2.1 Z S)) := by
  refine FX.go (lv := [(0, .ref (Z.A 0 0)), (1, .int ug)]) (by decide) (Nat.le_of_ble_eq_true rfl) rfl (fun p e s m args below meth c A H locs ls Q hx hb hr hts hown hml hlocks hout hK hE hI hA hl hQ => ?_)
  have hown : s.vm.findClass RX3 = some m.cls := hown
  have hz9 := hWZ.n0
  have hz8 := hWZ.n1
  have hz7 := hWZ.n2
  refine lv_iload_n hx hb dX3_kilosAnew_0 rfl (lv_at hl 1 rfl) ?_
  refine dxS0 (rest := []) hx hb hml hts hown hK hE hI (cX_needGoods G hst Z S ug) kX3_118 ⟨Nat.le_of_ble_eq_true rfl, Nat.le_of_ble_eq_true rfl⟩ hl.1 rfl (Nat.le_of_ble_eq_true rfl) dX3_kilosAnew_1 ⟨Nat.le_of_ble_eq_true rfl, Nat.le_of_ble_eq_true rfl⟩ (fun E9 ce q9 H locs h9 hI g1 g2 g3 => ?_) (fun t1 H locs hI => ?_)
  · have n9 : ¬ (X_needGoods Z S ug) = none := fun z => by rw [h9] at z; cases z
    have HE : X_kilosAnew Z S ug = (X_needGoods Z S ug, 0) := by exact (if_neg n9)
    exact rx_thru hout hlocks hI hA hQ ⟨by rw [HE]; exact h9, rfl⟩ (Nat.le_of_ble_eq_true rfl) (Nat.le_of_ble_eq_true rfl) g1 g2 g3
  · refine lv_iconst (v := 0) hx hb dX3_kilosAnew_4 (by decide) ?_
    refine lv_istore_n (lv' := [(2, .int 0), (0, .ref (Z.A 0 0)), (1, .int ug)]) hx hb dX3_kilosAnew_5 rfl hl (by decide) rfl (fun ls hl => ?_)
    refine lv_iconst (v := 0) hx hb dX3_kilosAnew_6 (by decide) ?_
    refine lv_istore_n (lv' := [(3, .int 0), (2, .int 0), (0, .ref (Z.A 0 0)), (1, .int ug)]) hx hb dX3_kilosAnew_7 rfl hl (by decide) rfl (fun ls hl => ?_)
    have hL3 : ∀ (k n : Nat), n + k = Z.N 2 → ∀ (i_ : Int32) (a2 : Int32) (H : Heap) (locs : List Loc) (ls : Array Slot), (i_ = nI n) → (a2 = X_kilosAnew_f Z S ug n) → (fI G.2.2.1 A s.heap (xW G.2.2.2 G.2.1 Z S) H locs) → (lv_has ls 5 [(3, .int i_), (2, .int a2), (0, .ref (Z.A 0 0)), (1, .int ug)]) → W p G.1 e ({ frames := 7, cells := 1, slots := 6, locals := 102 }) s m args below meth c H locs 1 6 Q (F0 m 8 ls []) := by
      intro k
      induction k with
      | zero =>
        intro n hnk i_ a2 H locs ls ei ea2 hI hl
        subst ei
        have hz9 := hWZ.n2
        refine lv_iload_n hx hb dX3_kilosAnew_8 rfl (lv_at hl 0 rfl) ?_
        refine lv_aload_n hx hb dX3_kilosAnew_9 rfl (lv_at hl 2 rfl) ?_
        refine gX3_19 (i := 0) hx hb hts hown hK hI (by decide) dX3_kilosAnew_10 ?_
        refine cFv (rest := [.int (nI n)]) hx hb hml hts hown hK hE hI (cL_size G Z S 2 (by decide)) kF_46 ⟨Nat.le_of_ble_eq_true rfl, Nat.le_of_ble_eq_true rfl⟩ rfl rfl (kk := 6) (ii := 2) (xW6 (by decide)) rfl rfl hl.1 rfl (Nat.le_of_ble_eq_true rfl) dX3_kilosAnew_13 ⟨Nat.le_of_ble_eq_true rfl, Nat.le_of_ble_eq_true rfl⟩ (fun H locs hI => ?_)
        refine lv_icmp_ge (tgt := 67) hx hb dX3_kilosAnew_18 (by decide) (fun _ => ?_) (fun h => absurd (by rw [(rfl : nI (Z.N 2) = nI (Z.N 2))]; exact nI_le (by omega) (by omega)) h)
        have hn9 : n = (Z.N 2) := by omega
        rw [hn9] at ea2
        have hl : lv_has ls 5 [(2, .int a2), (0, .ref (Z.A 0 0)), (1, .int ug)] := lv_sub hl [1, 2, 3] rfl
        refine lv_iload_n hx hb dX3_kilosAnew_67 rfl (lv_at hl 0 rfl) ?_
        have HE : X_kilosAnew Z S ug = (none, a2) := by subst ea2; exact (if_pos t1)
        exact rx_i hx hb hr hlocks hI hA hQ ⟨by rw [HE], by rw [HE], rfl⟩ (Nat.le_of_ble_eq_true rfl) (Nat.le_of_ble_eq_true rfl) dX3_kilosAnew_68
      | succ k ih =>
        intro n hnk i_ a2 H locs ls ei ea2 hI hl
        subst ei
        have hz9 := hWZ.n2
        refine lv_iload_n hx hb dX3_kilosAnew_8 rfl (lv_at hl 0 rfl) ?_
        refine lv_aload_n hx hb dX3_kilosAnew_9 rfl (lv_at hl 2 rfl) ?_
        refine gX3_19 (i := 0) hx hb hts hown hK hI (by decide) dX3_kilosAnew_10 ?_
        refine cFv (rest := [.int (nI n)]) hx hb hml hts hown hK hE hI (cL_size G Z S 2 (by decide)) kF_46 ⟨Nat.le_of_ble_eq_true rfl, Nat.le_of_ble_eq_true rfl⟩ rfl rfl (kk := 6) (ii := 2) (xW6 (by decide)) rfl rfl hl.1 rfl (Nat.le_of_ble_eq_true rfl) dX3_kilosAnew_13 ⟨Nat.le_of_ble_eq_true rfl, Nat.le_of_ble_eq_true rfl⟩ (fun H locs hI => ?_)
        refine lv_icmp_ge (tgt := 67) hx hb dX3_kilosAnew_18 (by decide) (fun h => absurd h (by rw [(rfl : nI (Z.N 2) = nI (Z.N 2))]; exact nI_ge (by omega) (by omega))) (fun _ => ?_)
        refine lv_aload_n hx hb dX3_kilosAnew_21 rfl (lv_at hl 2 rfl) ?_
        refine gX3_19 (i := 0) hx hb hts hown hK hI (by decide) dX3_kilosAnew_22 ?_
        refine lv_iload_n hx hb dX3_kilosAnew_25 rfl (lv_at hl 0 rfl) ?_
        refine cFv (rest := []) hx hb hml hts hown hK hE hI (cL_get G Z S 2 (nI n) (by decide) (WZ.P hWZ 2 (by decide)) (vp_in_nI (by omega) hWZ.n2)) kF_71 ⟨Nat.le_of_ble_eq_true rfl, Nat.le_of_ble_eq_true rfl⟩ rfl rfl (kk := 6) (ii := 2) (xW6 (by decide)) rfl rfl hl.1 rfl (Nat.le_of_ble_eq_true rfl) dX3_kilosAnew_26 ⟨Nat.le_of_ble_eq_true rfl, Nat.le_of_ble_eq_true rfl⟩ (fun H locs hI => ?_)
        rw [nI_clamp (show n < 2 ^ 31 by have := hWZ.n2; omega)]
        refine va_castE hx hb hown (hts _ q487) (fx_recv hK hI.1 (xW3 (show n < Z.O 3 by have := hWZ.2.2.1; omega)) (q := (RX0, TX0, 3)) rfl) dX3_kilosAnew_31 ?_
        refine lv_astore (lv' := [(4, .ref (Z.A 3 n)), (3, .int (nI n)), (2, .int a2), (0, .ref (Z.A 0 0)), (1, .int ug)]) hx hb dX3_kilosAnew_34 hl (by decide) rfl (fun ls hl => ?_)
        refine lv_aload hx hb dX3_kilosAnew_36 (lv_at hl 0 rfl) ?_
        refine gX3_190 (i := n) hx hb hts hown hK hI (show n < Z.O 3 by have := hWZ.2.2.1; omega) dX3_kilosAnew_38 ?_
        refine lv_iload_n hx hb dX3_kilosAnew_41 rfl (lv_at hl 4 rfl) ?_
        have hJ5 : ∀ (x4 : Int32) (ls : Array Slot), (x4 = if (S.1 3 n 0) = ug then (if (S.1 3 n 2) = 0 then (a2 + (S.1 3 n 1)) else a2) else a2) → (lv_has ls 5 [(2, .int x4), (4, .ref (Z.A 3 n)), (3, .int (nI n)), (0, .ref (Z.A 0 0)), (1, .int ug)]) → W p G.1 e ({ frames := 7, cells := 1, slots := 6, locals := 102 }) s m args below meth c H locs 1 6 Q (F0 m 61 ls []) := by
          intro x4 ls ex4 hl
          obtain ⟨x6, ex6⟩ : ∃ z : Int32, z = (nI n) + 1 := ⟨_, rfl⟩
          refine lv_iinc (v := x6) (lv' := [(3, .int x6), (2, .int x4), (4, .ref (Z.A 3 n)), (0, .ref (Z.A 0 0)), (1, .int ug)]) hx hb dX3_kilosAnew_61 hl (k := 2) rfl (by rw [ex6]; rfl) (by decide) rfl (fun ls hl => ?_)
          refine lv_goto (tgt := 8) hx hb dX3_kilosAnew_64 (by decide) ?_
          have HE : X_kilosAnew_s Z S ug n a2 = x4 := by subst ex6 ex4; exact rfl
          exact ih (n + 1) (by omega) x6 x4 H locs ls (by rw [ex6]; exact nI_1 n) (by show _ = X_kilosAnew_s Z S ug n (X_kilosAnew_f Z S ug n); rw [← ea2]; exact HE.symm) hI (lv_sub hl [0, 1, 3, 4] rfl)
        refine lv_icmp_ne (tgt := 61) hx hb dX3_kilosAnew_42 (by decide) (fun c7 => ?_) (fun c7 => ?_)
        · exact hJ5 a2 _ (by exact (if_neg c7).symm) (lv_sub hl [2, 0, 1, 3, 4] rfl)
        · refine lv_aload hx hb dX3_kilosAnew_45 (lv_at hl 0 rfl) ?_
          refine gX3_220 (i := n) hx hb hts hown hK hI (show n < Z.O 3 by have := hWZ.2.2.1; omega) dX3_kilosAnew_47 ?_
          refine lv_if_ne (tgt := 61) hx hb dX3_kilosAnew_50 (by decide) (fun c8 => ?_) (fun c8 => ?_)
          · exact hJ5 a2 _ (by exact ((if_pos c7).trans (if_neg c8)).symm) (lv_sub hl [2, 0, 1, 3, 4] rfl)
          · refine lv_iload_n hx hb dX3_kilosAnew_53 rfl (lv_at hl 2 rfl) ?_
            refine lv_aload hx hb dX3_kilosAnew_54 (lv_at hl 0 rfl) ?_
            refine gX3_187 (i := n) hx hb hts hown hK hI (show n < Z.O 3 by have := hWZ.2.2.1; omega) dX3_kilosAnew_56 ?_
            refine lv_iadd hx hb dX3_kilosAnew_59 ?_
            refine lv_istore_n (lv' := [(2, .int (a2 + (S.1 3 n 1))), (4, .ref (Z.A 3 n)), (3, .int (nI n)), (0, .ref (Z.A 0 0)), (1, .int ug)]) hx hb dX3_kilosAnew_60 rfl hl (by decide) rfl (fun ls hl => ?_)
            exact hJ5 (a2 + (S.1 3 n 1)) _ (by exact ((if_pos c7).trans (if_pos c8)).symm) (lv_sub hl [0, 1, 2, 3, 4] rfl)
    exact hL3 (Z.N 2) 0 (by omega) 0 0 H locs ls nI_0.symm rfl hI (lv_sub hl [0, 1, 2, 3] rfl)

/-- minutes counted one by one -/
def X_mA (M st : Int32) : Nat → Int32 → Int32 → Int32
  | 0, _, c => c
  | k + 1, g, c => if M ≤ g then c else X_mA M st k (g + st) (c + 1)
def X_minutesAnew (Z : XZ) (S : XS) (uv : Int32) (up : Int32) : Option String × Int32 :=
  if X_pieceNumbered Z S up = none then
    if X_vehicleNumbered Z S uv = none then
      let r3 := X_mA (S.1 1 (up.toNatClampNeg) 1) (6 * (X_speedOf Z S up.toNatClampNeg uv.toNatClampNeg)) 20000 0 0
      (none, r3)
    else
      (X_vehicleNumbered Z S uv, 0)
  else
    (X_pieceNumbered Z S up, 0)
set_option maxHeartbeats 4000000 in
set_option maxRecDepth 100000 in
theorem cX_minutesAnew (G : GX) (hst : G.1.stackTraces = false) (Z : XZ) (S : XS) (uv : Int32) (up : Int32) (hWZ : WZ Z) : FX G yX3_minutesAnew cX3_minutesAnew 7 (some .int) ({ frames := 7, cells := 2, slots := 12, locals := 103 }) [.ref (Z.A 0 0), .int uv, .int up] (xW G.2.2.2 G.2.1 Z S) (pvx (X_minutesAnew Z S uv up).1 (.int (X_minutesAnew Z S uv up).2) (xW G.2.2.2 G.2.1 Z S)) (px (X_minutesAnew Z S uv up).1 (xW G.2.2.2 G.2.1 Z S)) := by
  refine FX.go (lv := [(0, .ref (Z.A 0 0)), (1, .int uv), (2, .int up)]) (by decide) (Nat.le_of_ble_eq_true rfl) rfl (fun p e s m args below meth c A H locs ls Q hx hb hr hts hown hml hlocks hout hK hE hI hA hl hQ => ?_)
  have hown : s.vm.findClass RX3 = some m.cls := hown
  refine lv_aload_n hx hb dX3_minutesAnew_0 rfl (lv_at hl 0 rfl) ?_
  refine lv_iload_n hx hb dX3_minutesAnew_1 rfl (lv_at hl 2 rfl) ?_
  refine dxVv (rest := []) hx hb hml hts hown hK hE hI (cX_pieceNumbered G hst Z S up hWZ) kX3_78 ⟨Nat.le_of_ble_eq_true rfl, Nat.le_of_ble_eq_true rfl⟩ (kk := 0) (ii := 0) (xW0 (by decide)) rfl rfl hl.1 rfl (Nat.le_of_ble_eq_true rfl) dX3_minutesAnew_2 ⟨Nat.le_of_ble_eq_true rfl, Nat.le_of_ble_eq_true rfl⟩ (fun E9 ce q9 H locs h9 hI g1 g2 g3 => ?_) (fun t1 H locs hI => ?_)
  · have n9 : ¬ (X_pieceNumbered Z S up) = none := fun z => by rw [h9] at z; cases z
    have HE : X_minutesAnew Z S uv up = (X_pieceNumbered Z S up, 0) := by exact (if_neg n9)
    exact rx_thru hout hlocks hI hA hQ ⟨by rw [HE]; exact h9, rfl⟩ (Nat.le_of_ble_eq_true rfl) (Nat.le_of_ble_eq_true rfl) g1 g2 g3
  · refine lv_astore_n (lv' := [(3, .ref (Z.A 1 up.toNatClampNeg)), (0, .ref (Z.A 0 0)), (1, .int uv), (2, .int up)]) hx hb dX3_minutesAnew_5 rfl hl (by decide) rfl (fun ls hl => ?_)
    refine lv_bipush (v := 6) hx hb dX3_minutesAnew_6 (by decide) ?_
    refine lv_aload_n hx hb dX3_minutesAnew_8 rfl (lv_at hl 0 rfl) ?_
    refine lv_aload_n hx hb dX3_minutesAnew_9 rfl (lv_at hl 1 rfl) ?_
    refine lv_iload_n hx hb dX3_minutesAnew_10 rfl (lv_at hl 2 rfl) ?_
    refine dxVv (rest := [.ref (Z.A 1 up.toNatClampNeg), .int 6]) hx hb hml hts hown hK hE hI (cX_vehicleNumbered G hst Z S uv hWZ) kX3_114 ⟨Nat.le_of_ble_eq_true rfl, Nat.le_of_ble_eq_true rfl⟩ (kk := 0) (ii := 0) (xW0 (by decide)) rfl rfl hl.1 rfl (Nat.le_of_ble_eq_true rfl) dX3_minutesAnew_11 ⟨Nat.le_of_ble_eq_true rfl, Nat.le_of_ble_eq_true rfl⟩ (fun E9 ce q9 H locs h9 hI g1 g2 g3 => ?_) (fun t2 H locs hI => ?_)
    · have n9 : ¬ (X_vehicleNumbered Z S uv) = none := fun z => by rw [h9] at z; cases z
      have HE : X_minutesAnew Z S uv up = (X_vehicleNumbered Z S uv, 0) := by exact (if_pos t1).trans ((if_neg n9))
      exact rx_thru hout hlocks hI hA hQ ⟨by rw [HE]; exact h9, rfl⟩ (Nat.le_of_ble_eq_true rfl) (Nat.le_of_ble_eq_true rfl) g1 g2 g3
    · refine cVv (rest := [.int 6]) hx hb hml hts hown hK hE hI (cX_speedOf G Z S up.toNatClampNeg uv.toNatClampNeg (pN_lt hWZ t1) (vN_lt hWZ t2)) kX3_203 ⟨Nat.le_of_ble_eq_true rfl, Nat.le_of_ble_eq_true rfl⟩ rfl rfl (kk := 1) (ii := up.toNatClampNeg) (xW1 (pN_lt hWZ t1)) rfl rfl hl.1 rfl (Nat.le_of_ble_eq_true rfl) dX3_minutesAnew_14 ⟨Nat.le_of_ble_eq_true rfl, Nat.le_of_ble_eq_true rfl⟩ (fun H locs hI => ?_)
      refine lv_imul hx hb dX3_minutesAnew_17 ?_
      refine lv_istore (lv' := [(4, .int (6 * (X_speedOf Z S up.toNatClampNeg uv.toNatClampNeg))), (3, .ref (Z.A 1 up.toNatClampNeg)), (0, .ref (Z.A 0 0)), (1, .int uv), (2, .int up)]) hx hb dX3_minutesAnew_18 hl (by decide) rfl (fun ls hl => ?_)
      refine lv_iconst (v := 0) hx hb dX3_minutesAnew_20 (by decide) ?_
      refine lv_istore (lv' := [(5, .int 0), (4, .int (6 * (X_speedOf Z S up.toNatClampNeg uv.toNatClampNeg))), (3, .ref (Z.A 1 up.toNatClampNeg)), (0, .ref (Z.A 0 0)), (1, .int uv), (2, .int up)]) hx hb dX3_minutesAnew_21 hl (by decide) rfl (fun ls hl => ?_)
      refine lv_iconst (v := 0) hx hb dX3_minutesAnew_23 (by decide) ?_
      refine lv_istore (lv' := [(6, .int 0), (5, .int 0), (4, .int (6 * (X_speedOf Z S up.toNatClampNeg uv.toNatClampNeg))), (3, .ref (Z.A 1 up.toNatClampNeg)), (0, .ref (Z.A 0 0)), (1, .int uv), (2, .int up)]) hx hb dX3_minutesAnew_24 hl (by decide) rfl (fun ls hl => ?_)
      obtain ⟨r3, er3⟩ : ∃ z : Int32, z = X_mA (S.1 1 (up.toNatClampNeg) 1) (6 * (X_speedOf Z S up.toNatClampNeg uv.toNatClampNeg)) 20000 0 0 := ⟨_, rfl⟩
      have hL4 : ∀ (k n : Nat), n + k = 20000 → ∀ (g_ i_ : Int32) (ls : Array Slot), i_ = nI n → X_mA (S.1 1 (up.toNatClampNeg) 1) (6 * (X_speedOf Z S up.toNatClampNeg uv.toNatClampNeg)) k g_ i_ = r3 → lv_has ls 7 [(6, .int i_), (5, .int g_), (4, .int (6 * (X_speedOf Z S up.toNatClampNeg uv.toNatClampNeg))), (3, .ref (Z.A 1 up.toNatClampNeg)), (0, .ref (Z.A 0 0)), (1, .int uv), (2, .int up)] → W p G.1 e ({ frames := 7, cells := 2, slots := 12, locals := 103 }) s m args below meth c H locs 2 12 Q (F0 m 26 ls []) := by
        intro k
        induction k with
        | zero =>
          intro n hnk g_ i_ ls ei hr9 hl
          refine lv_iload hx hb dX3_minutesAnew_26 (lv_at hl 1 rfl) ?_
          refine lv_aload_n hx hb dX3_minutesAnew_28 rfl (lv_at hl 3 rfl) ?_
          refine gX3_209 (i := up.toNatClampNeg) hx hb hts hown hK hI (pN_lt hWZ t1) dX3_minutesAnew_29 ?_
          refine lv_icmp_ge (tgt := 56) hx hb dX3_minutesAnew_32 (by decide) (fun h8 => ?_) (fun h8 => ?_)
          · have e9 : i_ = r3 := by rw [← hr9]; exact rfl
            rw [e9] at hl
            refine lv_iload hx hb dX3_minutesAnew_56 (lv_at hl 0 rfl) ?_
            have HE : X_minutesAnew Z S uv up = (none, r3) := by subst er3; exact (if_pos t1).trans ((if_pos t2))
            exact rx_i hx hb hr hlocks hI hA hQ ⟨by rw [HE], by rw [HE], rfl⟩ (Nat.le_of_ble_eq_true rfl) (Nat.le_of_ble_eq_true rfl) dX3_minutesAnew_58
          · refine lv_iload hx hb dX3_minutesAnew_35 (lv_at hl 0 rfl) ?_
            refine lv_sipush (v := 20000) hx hb dX3_minutesAnew_37 (by decide) ?_
            refine lv_icmp_ge (tgt := 56) hx hb dX3_minutesAnew_40 (by decide) (fun _ => ?_) (fun h => absurd (by rw [ei, show (20000 : Int32) = nI 20000 from rfl]; exact nI_le (by omega) (by omega)) h)
            have e9 : i_ = r3 := by rw [← hr9]; exact rfl
            rw [e9] at hl
            refine lv_iload hx hb dX3_minutesAnew_56 (lv_at hl 0 rfl) ?_
            have HE : X_minutesAnew Z S uv up = (none, r3) := by subst er3; exact (if_pos t1).trans ((if_pos t2))
            exact rx_i hx hb hr hlocks hI hA hQ ⟨by rw [HE], by rw [HE], rfl⟩ (Nat.le_of_ble_eq_true rfl) (Nat.le_of_ble_eq_true rfl) dX3_minutesAnew_58
        | succ k ih =>
          intro n hnk g_ i_ ls ei hr9 hl
          refine lv_iload hx hb dX3_minutesAnew_26 (lv_at hl 1 rfl) ?_
          refine lv_aload_n hx hb dX3_minutesAnew_28 rfl (lv_at hl 3 rfl) ?_
          refine gX3_209 (i := up.toNatClampNeg) hx hb hts hown hK hI (pN_lt hWZ t1) dX3_minutesAnew_29 ?_
          refine lv_icmp_ge (tgt := 56) hx hb dX3_minutesAnew_32 (by decide) (fun h8 => ?_) (fun h8 => ?_)
          · have e9 : i_ = r3 := by rw [← hr9]; exact (if_pos h8).symm
            rw [e9] at hl
            refine lv_iload hx hb dX3_minutesAnew_56 (lv_at hl 0 rfl) ?_
            have HE : X_minutesAnew Z S uv up = (none, r3) := by subst er3; exact (if_pos t1).trans ((if_pos t2))
            exact rx_i hx hb hr hlocks hI hA hQ ⟨by rw [HE], by rw [HE], rfl⟩ (Nat.le_of_ble_eq_true rfl) (Nat.le_of_ble_eq_true rfl) dX3_minutesAnew_58
          · refine lv_iload hx hb dX3_minutesAnew_35 (lv_at hl 0 rfl) ?_
            refine lv_sipush (v := 20000) hx hb dX3_minutesAnew_37 (by decide) ?_
            refine lv_icmp_ge (tgt := 56) hx hb dX3_minutesAnew_40 (by decide) (fun h => absurd h (by rw [ei, show (20000 : Int32) = nI 20000 from rfl]; exact nI_ge (by omega) (by omega))) (fun _ => ?_)
            refine lv_iload hx hb dX3_minutesAnew_43 (lv_at hl 1 rfl) ?_
            refine lv_iload hx hb dX3_minutesAnew_45 (lv_at hl 2 rfl) ?_
            refine lv_iadd hx hb dX3_minutesAnew_47 ?_
            refine lv_istore (lv' := [(5, .int (g_ + (6 * (X_speedOf Z S up.toNatClampNeg uv.toNatClampNeg)))), (6, .int i_), (4, .int (6 * (X_speedOf Z S up.toNatClampNeg uv.toNatClampNeg))), (3, .ref (Z.A 1 up.toNatClampNeg)), (0, .ref (Z.A 0 0)), (1, .int uv), (2, .int up)]) hx hb dX3_minutesAnew_48 hl (by decide) rfl (fun ls hl => ?_)
            obtain ⟨x5, ex5⟩ : ∃ z : Int32, z = i_ + 1 := ⟨_, rfl⟩
            refine lv_iinc (v := x5) (lv' := [(6, .int x5), (5, .int (g_ + (6 * (X_speedOf Z S up.toNatClampNeg uv.toNatClampNeg)))), (4, .int (6 * (X_speedOf Z S up.toNatClampNeg uv.toNatClampNeg))), (3, .ref (Z.A 1 up.toNatClampNeg)), (0, .ref (Z.A 0 0)), (1, .int uv), (2, .int up)]) hx hb dX3_minutesAnew_50 hl (k := 1) rfl (by rw [ex5]; rfl) (by decide) rfl (fun ls hl => ?_)
            refine lv_goto (tgt := 26) hx hb dX3_minutesAnew_53 (by decide) ?_
            exact ih (n + 1) (by omega) (g_ + (6 * (X_speedOf Z S up.toNatClampNeg uv.toNatClampNeg))) x5 ls (by rw [ex5, ei]; exact nI_1 n) (by rw [← hr9, ex5]; exact (if_neg h8).symm) (lv_sub hl [0, 1, 2, 3, 4, 5, 6] rfl)
      exact hL4 20000 0 (by omega) 0 0 ls nI_0.symm er3.symm (lv_sub hl [0, 1, 2, 3, 4, 5, 6] rfl)

