def X_endDay_s (S2 : XS) (Z : XZ) (n : Nat) : XS :=
  let S4 := if (S2.1 0 0 7) ≤ 0 then (if 0 ≤ (S2.1 0 0 7) then S2 else (X_thaw Z S2 n (-(S2.1 0 0 7)))) else (X_freeze Z S2 n (S2.1 0 0 7))
  let x6 := (nI n) + 1
  S4
def X_endDay_f (S : XS) (Z : XZ) : Nat → XS
  | 0 => S
  | n + 1 => X_endDay_s (X_endDay_f S Z n) Z n

def X_endDay (Z : XZ) (S : XS) : XS :=
  let S2 := X_endDay_f S Z (Z.N 0)
  S2
set_option maxHeartbeats 4000000 in
set_option maxRecDepth 100000 in
theorem cX_endDay (G : GX) (Z : XZ) (S : XS) (hWZ : WZ Z) : FC G yX3_endDay cX3_endDay 2 none ({ frames := 3, cells := 0, slots := 0, locals := 66 }) [.ref (Z.A 0 0)] (xW G.2.2.2 G.2.1 Z S) (p0 (xW G.2.2.2 G.2.1 Z (X_endDay Z S))) := by
  refine FC.go (lv := [(0, .ref (Z.A 0 0))]) (by decide) (Nat.le_of_ble_eq_true rfl) rfl (fun p e s m args below meth c A H locs ls Q hx hb hr hts hown hml hlocks hnm hK hE hI hA hl hQ => ?_)
  have hown : s.vm.findClass RX3 = some m.cls := hown
  have hz9 := hWZ.n0
  have hz8 := hWZ.n1
  have hz7 := hWZ.n2
  refine lv_iconst (v := 0) hx hb dX3_endDay_0 (by decide) ?_
  refine lv_istore_n (lv' := [(1, .int 0), (0, .ref (Z.A 0 0))]) hx hb dX3_endDay_1 rfl hl (by decide) rfl (fun ls hl => ?_)
  have hL3 : ∀ (k n : Nat), n + k = Z.N 0 → ∀ (i_ : Int32) (S2 : XS) (H : Heap) (locs : List Loc) (ls : Array Slot), (i_ = nI n) → (S2 = X_endDay_f S Z n) → (fI G.2.2.1 A s.heap (xW G.2.2.2 G.2.1 Z S2) H locs) → (lv_has ls 2 [(1, .int i_), (0, .ref (Z.A 0 0))]) → W p G.1 e ({ frames := 3, cells := 0, slots := 0, locals := 66 }) s m args below meth c H locs 0 0 Q (F0 m 2 ls []) := by
    intro k
    induction k with
    | zero =>
      intro n hnk i_ S2 H locs ls ei eS2 hI hl
      subst ei
      have hz9 := hWZ.n0
      refine lv_iload_n hx hb dX3_endDay_2 rfl (lv_at hl 0 rfl) ?_
      refine lv_aload_n hx hb dX3_endDay_3 rfl (lv_at hl 1 rfl) ?_
      refine gX3_10 (i := 0) hx hb hts hown hK hI (by decide) dX3_endDay_4 ?_
      refine cFv (rest := [.int (nI n)]) hx hb hml hts hown hK hE hI (cL_size G Z S2 0 (by decide)) kF_46 ⟨Nat.le_of_ble_eq_true rfl, Nat.le_of_ble_eq_true rfl⟩ rfl rfl (kk := 6) (ii := 0) (xW6 (by decide)) rfl rfl hl.1 rfl (Nat.le_of_ble_eq_true rfl) dX3_endDay_7 ⟨Nat.zero_le _, Nat.zero_le _⟩ (fun H locs hI => ?_)
      refine lv_icmp_ge (tgt := 79) hx hb dX3_endDay_12 (by decide) (fun _ => ?_) (fun h => absurd (by rw [(rfl : nI (Z.N 0) = nI (Z.N 0))]; exact nI_le (by omega) (by omega)) h)
      have hn9 : n = (Z.N 0) := by omega
      rw [hn9] at eS2
      have hl : lv_has ls 2 [(0, .ref (Z.A 0 0))] := lv_sub hl [1] rfl
      have HE : X_endDay Z S = S2 := by subst eS2; exact rfl
      exact rt_v hx hb hr hlocks hI hA hQ ⟨rfl, by rw [HE]⟩ (Nat.zero_le _) (Nat.zero_le _) dX3_endDay_79
    | succ k ih =>
      intro n hnk i_ S2 H locs ls ei eS2 hI hl
      subst ei
      have hz9 := hWZ.n0
      refine lv_iload_n hx hb dX3_endDay_2 rfl (lv_at hl 0 rfl) ?_
      refine lv_aload_n hx hb dX3_endDay_3 rfl (lv_at hl 1 rfl) ?_
      refine gX3_10 (i := 0) hx hb hts hown hK hI (by decide) dX3_endDay_4 ?_
      refine cFv (rest := [.int (nI n)]) hx hb hml hts hown hK hE hI (cL_size G Z S2 0 (by decide)) kF_46 ⟨Nat.le_of_ble_eq_true rfl, Nat.le_of_ble_eq_true rfl⟩ rfl rfl (kk := 6) (ii := 0) (xW6 (by decide)) rfl rfl hl.1 rfl (Nat.le_of_ble_eq_true rfl) dX3_endDay_7 ⟨Nat.zero_le _, Nat.zero_le _⟩ (fun H locs hI => ?_)
      refine lv_icmp_ge (tgt := 79) hx hb dX3_endDay_12 (by decide) (fun h => absurd h (by rw [(rfl : nI (Z.N 0) = nI (Z.N 0))]; exact nI_ge (by omega) (by omega))) (fun _ => ?_)
      refine lv_aload_n hx hb dX3_endDay_15 rfl (lv_at hl 1 rfl) ?_
      refine gX3_36 (i := 0) hx hb hts hown hK hI (by decide) dX3_endDay_16 ?_
      have hJ5 : ∀ (S4 : XS) (H : Heap) (locs : List Loc), (S4 = if (S2.1 0 0 7) ≤ 0 then (if 0 ≤ (S2.1 0 0 7) then S2 else (X_thaw Z S2 n (-(S2.1 0 0 7)))) else (X_freeze Z S2 n (S2.1 0 0 7))) → (fI G.2.2.1 A s.heap (xW G.2.2.2 G.2.1 Z S4) H locs) → W p G.1 e ({ frames := 3, cells := 0, slots := 0, locals := 66 }) s m args below meth c H locs 0 0 Q (F0 m 73 ls []) := by
        intro S4 H locs eS4 hI
        obtain ⟨x6, ex6⟩ : ∃ z : Int32, z = (nI n) + 1 := ⟨_, rfl⟩
        refine lv_iinc (v := x6) (lv' := [(1, .int x6), (0, .ref (Z.A 0 0))]) hx hb dX3_endDay_73 hl (k := 0) rfl (by rw [ex6]; rfl) (by decide) rfl (fun ls hl => ?_)
        refine lv_goto (tgt := 2) hx hb dX3_endDay_76 (by decide) ?_
        have HE : X_endDay_s S2 Z n = S4 := by subst ex6 eS4; exact rfl
        exact ih (n + 1) (by omega) x6 S4 H locs ls (by rw [ex6]; exact nI_1 n) (by show _ = X_endDay_s (X_endDay_f S Z n) Z n; rw [← eS2]; exact HE.symm) hI (lv_sub hl [0, 1] rfl)
      refine lv_if_le (tgt := 45) hx hb dX3_endDay_19 (by decide) (fun c7 => ?_) (fun c7 => ?_)
      · refine lv_aload_n hx hb dX3_endDay_45 rfl (lv_at hl 1 rfl) ?_
        refine gX3_36 (i := 0) hx hb hts hown hK hI (by decide) dX3_endDay_46 ?_
        refine lv_if_ge (tgt := 73) hx hb dX3_endDay_49 (by decide) (fun c8 => ?_) (fun c8 => ?_)
        · exact hJ5 S2 _ _ (by exact ((if_pos c7).trans (if_pos c8)).symm) hI
        · refine lv_aload_n hx hb dX3_endDay_52 rfl (lv_at hl 1 rfl) ?_
          refine gX3_10 (i := 0) hx hb hts hown hK hI (by decide) dX3_endDay_53 ?_
          refine lv_iload_n hx hb dX3_endDay_56 rfl (lv_at hl 0 rfl) ?_
          refine cFv (rest := []) hx hb hml hts hown hK hE hI (cL_get G Z S2 0 (nI n) (by decide) (WZ.P hWZ 0 (by decide)) (vp_in_nI (by omega) hWZ.n0)) kF_71 ⟨Nat.le_of_ble_eq_true rfl, Nat.le_of_ble_eq_true rfl⟩ rfl rfl (kk := 6) (ii := 0) (xW6 (by decide)) rfl rfl hl.1 rfl (Nat.le_of_ble_eq_true rfl) dX3_endDay_57 ⟨Nat.zero_le _, Nat.zero_le _⟩ (fun H locs hI => ?_)
          rw [nI_clamp (show n < 2 ^ 31 by have := hWZ.n0; omega)]
          refine va_castE hx hb hown (hts _ q215) (fx_recv hK hI.1 (xW1 (show n < Z.O 1 by have := hWZ.1; omega)) (q := (RX1, TX1, 16)) rfl) dX3_endDay_62 ?_
          refine lv_aload_n hx hb dX3_endDay_65 rfl (lv_at hl 1 rfl) ?_
          refine gX3_36 (i := 0) hx hb hts hown hK hI (by decide) dX3_endDay_66 ?_
          refine lv_ineg hx hb dX3_endDay_69 ?_
          obtain ⟨S9, eS9⟩ : ∃ z : XS, z = X_thaw Z S2 n (-(S2.1 0 0 7)) := ⟨_, rfl⟩
          refine cV0 (rest := []) hx hb hml hts hown hK hE hI (cX_thaw G Z S2 n (-(S2.1 0 0 7)) (show n < Z.O 1 by have := hWZ.1; omega)) kX3_254 ⟨Nat.le_of_ble_eq_true rfl, Nat.le_of_ble_eq_true rfl⟩ rfl rfl (kk := 1) (ii := n) (xW1 (show n < Z.O 1 by have := hWZ.1; omega)) rfl rfl hl.1 rfl (Nat.le_of_ble_eq_true rfl) dX3_endDay_70 ⟨Nat.zero_le _, Nat.zero_le _⟩ (fun H locs hI => ?_)
          rw [← eS9] at hI
          exact hJ5 S9 _ _ (by subst eS9; exact ((if_pos c7).trans (if_neg c8)).symm) hI
      · refine lv_aload_n hx hb dX3_endDay_22 rfl (lv_at hl 1 rfl) ?_
        refine gX3_10 (i := 0) hx hb hts hown hK hI (by decide) dX3_endDay_23 ?_
        refine lv_iload_n hx hb dX3_endDay_26 rfl (lv_at hl 0 rfl) ?_
        refine cFv (rest := []) hx hb hml hts hown hK hE hI (cL_get G Z S2 0 (nI n) (by decide) (WZ.P hWZ 0 (by decide)) (vp_in_nI (by omega) hWZ.n0)) kF_71 ⟨Nat.le_of_ble_eq_true rfl, Nat.le_of_ble_eq_true rfl⟩ rfl rfl (kk := 6) (ii := 0) (xW6 (by decide)) rfl rfl hl.1 rfl (Nat.le_of_ble_eq_true rfl) dX3_endDay_27 ⟨Nat.zero_le _, Nat.zero_le _⟩ (fun H locs hI => ?_)
        rw [nI_clamp (show n < 2 ^ 31 by have := hWZ.n0; omega)]
        refine va_castE hx hb hown (hts _ q215) (fx_recv hK hI.1 (xW1 (show n < Z.O 1 by have := hWZ.1; omega)) (q := (RX1, TX1, 16)) rfl) dX3_endDay_32 ?_
        refine lv_aload_n hx hb dX3_endDay_35 rfl (lv_at hl 1 rfl) ?_
        refine gX3_36 (i := 0) hx hb hts hown hK hI (by decide) dX3_endDay_36 ?_
        obtain ⟨S10, eS10⟩ : ∃ z : XS, z = X_freeze Z S2 n (S2.1 0 0 7) := ⟨_, rfl⟩
        refine cV0 (rest := []) hx hb hml hts hown hK hE hI (cX_freeze G Z S2 n (S2.1 0 0 7) (show n < Z.O 1 by have := hWZ.1; omega)) kX3_251 ⟨Nat.le_of_ble_eq_true rfl, Nat.le_of_ble_eq_true rfl⟩ rfl rfl (kk := 1) (ii := n) (xW1 (show n < Z.O 1 by have := hWZ.1; omega)) rfl rfl hl.1 rfl (Nat.le_of_ble_eq_true rfl) dX3_endDay_39 ⟨Nat.zero_le _, Nat.zero_le _⟩ (fun H locs hI => ?_)
        rw [← eS10] at hI
        refine lv_goto (tgt := 73) hx hb dX3_endDay_42 (by decide) ?_
        exact hJ5 S10 _ _ (by subst eS10; exact (if_neg c7).symm) hI
  exact hL3 (Z.N 0) 0 (by omega) 0 S H locs ls nI_0.symm rfl hI (lv_sub hl [0, 1] rfl)

theorem X_endDay_f_c {Z : XZ} {S : XS} {n : Nat} : (X_endDay_f S Z n).2.2 = S.2.2 := by
  induction n with
  | zero => rfl
  | succ n ih =>
    show (X_endDay_s (X_endDay_f S Z n) Z n).2.2 = _
    rw [← ih]
    generalize X_endDay_f S Z n = S1
    unfold X_endDay_s
    dsimp only
    (repeat' split) <;> first | exact X_freeze_c | exact X_thaw_c | rfl
theorem CW_endDay {Z : XZ} {S : XS} (h : CW Z S) : CW Z (X_endDay Z S) := CW_eq X_endDay_f_c h
def X_passOneMinute_s (S6 : XS) (Z : XZ) (n : Nat) : XS :=
  let S8 := X_moveOn Z S6 n
  let x9 := (nI n) + 1
  S8
def X_passOneMinute_f (S : XS) (Z : XZ) : Nat → XS
  | 0 => S
  | n + 1 => X_passOneMinute_s (X_passOneMinute_f S Z n) Z n

def X_passOneMinute (Z : XZ) (S : XS) : XS :=
  let S1 := xset S 0 0 6 ((S.1 0 0 6) + 1)
  let S2 := if ((S1.1 0 0 6) - (S1.1 0 0 6) / 1440 * 1440) = 0 then (X_endDay Z S1) else S1
  let S6 := X_passOneMinute_f S2 Z (Z.N 1)
  S6
theorem CW_passOneMinute_f {Z : XZ} {S : XS} (h : CW Z S) (n : Nat) : CW Z (X_passOneMinute_f S Z n) := by
  induction n with
  | zero => exact h
  | succ n ih => exact CW_moveOn ih
theorem CW_passOneMinute {Z : XZ} {S : XS} (h : CW Z S) : CW Z (X_passOneMinute Z S) := by
  unfold X_passOneMinute
  dsimp only
  exact CW_passOneMinute_f (CW_ite (CW_endDay (CW_set rfl h)) (CW_set rfl h)) _
set_option maxHeartbeats 4000000 in
set_option maxRecDepth 100000 in
theorem cX_passOneMinute (G : GX) (Z : XZ) (S : XS) (hWZ : WZ Z) (hC : CW Z S) : FC G yX3_passOneMinute cX3_passOneMinute 2 none ({ frames := 6, cells := 0, slots := 0, locals := 131 }) [.ref (Z.A 0 0)] (xW G.2.2.2 G.2.1 Z S) (p0 (xW G.2.2.2 G.2.1 Z (X_passOneMinute Z S))) := by
  refine FC.go (lv := [(0, .ref (Z.A 0 0))]) (by decide) (Nat.le_of_ble_eq_true rfl) rfl (fun p e s m args below meth c A H locs ls Q hx hb hr hts hown hml hlocks hnm hK hE hI hA hl hQ => ?_)
  have hown : s.vm.findClass RX3 = some m.cls := hown
  have hz9 := hWZ.n0
  have hz8 := hWZ.n1
  have hz7 := hWZ.n2
  refine lv_aload_n hx hb dX3_passOneMinute_0 rfl (lv_at hl 0 rfl) ?_
  refine lv_dup hx hb dX3_passOneMinute_1 rfl ?_
  refine gX3_32 (i := 0) hx hb hts hown hK hI (by decide) dX3_passOneMinute_2 ?_
  refine lv_iconst (v := 1) hx hb dX3_passOneMinute_5 (by decide) ?_
  refine lv_iadd hx hb dX3_passOneMinute_6 ?_
  obtain ⟨S1, eS1⟩ : ∃ z : XS, z = xset S 0 0 6 ((S.1 0 0 6) + 1) := ⟨_, rfl⟩
  refine pX3_32 (i := 0) hx hb hts hown hK hI (by decide) eS1 dX3_passOneMinute_7 (fun H locs hI => ?_)
  refine lv_aload_n hx hb dX3_passOneMinute_10 rfl (lv_at hl 0 rfl) ?_
  refine gX3_32 (i := 0) hx hb hts hown hK hI (by decide) dX3_passOneMinute_11 ?_
  refine lv_sipush (v := 1440) hx hb dX3_passOneMinute_14 (by decide) ?_
  refine lv_irem hx hb dX3_passOneMinute_17 (by decide) ?_
  have hJ4 : ∀ (S2 : XS) (H : Heap) (locs : List Loc), (S2 = if ((S1.1 0 0 6) - (S1.1 0 0 6) / 1440 * 1440) = 0 then (X_endDay Z S1) else S1) → (fI G.2.2.1 A s.heap (xW G.2.2.2 G.2.1 Z S2) H locs) → (CW Z S2) → W p G.1 e ({ frames := 6, cells := 0, slots := 0, locals := 131 }) s m args below meth c H locs 0 0 Q (F0 m 25 ls []) := by
    intro S2 H locs eS2 hI hf3
    refine lv_iconst (v := 0) hx hb dX3_passOneMinute_25 (by decide) ?_
    refine lv_istore_n (lv' := [(1, .int 0), (0, .ref (Z.A 0 0))]) hx hb dX3_passOneMinute_26 rfl hl (by decide) rfl (fun ls hl => ?_)
    have hL7 : ∀ (k n : Nat), n + k = Z.N 1 → ∀ (i_ : Int32) (S6 : XS) (H : Heap) (locs : List Loc) (ls : Array Slot), (i_ = nI n) → (S6 = X_passOneMinute_f S2 Z n) → (fI G.2.2.1 A s.heap (xW G.2.2.2 G.2.1 Z S6) H locs) → (lv_has ls 2 [(1, .int i_), (0, .ref (Z.A 0 0))]) → W p G.1 e ({ frames := 6, cells := 0, slots := 0, locals := 131 }) s m args below meth c H locs 0 0 Q (F0 m 27 ls []) := by
      intro k
      induction k with
      | zero =>
        intro n hnk i_ S6 H locs ls ei eS6 hI hl
        subst ei
        have hz9 := hWZ.n1
        have hC2 : CW Z S6 := by rw [eS6]; exact CW_passOneMinute_f hf3 n
        refine lv_iload_n hx hb dX3_passOneMinute_27 rfl (lv_at hl 0 rfl) ?_
        refine lv_aload_n hx hb dX3_passOneMinute_28 rfl (lv_at hl 1 rfl) ?_
        refine gX3_16 (i := 0) hx hb hts hown hK hI (by decide) dX3_passOneMinute_29 ?_
        refine cFv (rest := [.int (nI n)]) hx hb hml hts hown hK hE hI (cL_size G Z S6 1 (by decide)) kF_46 ⟨Nat.le_of_ble_eq_true rfl, Nat.le_of_ble_eq_true rfl⟩ rfl rfl (kk := 6) (ii := 1) (xW6 (by decide)) rfl rfl hl.1 rfl (Nat.le_of_ble_eq_true rfl) dX3_passOneMinute_32 ⟨Nat.zero_le _, Nat.zero_le _⟩ (fun H locs hI => ?_)
        refine lv_icmp_ge (tgt := 63) hx hb dX3_passOneMinute_37 (by decide) (fun _ => ?_) (fun h => absurd (by rw [(rfl : nI (Z.N 1) = nI (Z.N 1))]; exact nI_le (by omega) (by omega)) h)
        have hn9 : n = (Z.N 1) := by omega
        rw [hn9] at eS6
        have hl : lv_has ls 2 [(0, .ref (Z.A 0 0))] := lv_sub hl [1] rfl
        have HE : X_passOneMinute Z S = S6 := by subst eS6 eS2 eS1; exact rfl
        exact rt_v hx hb hr hlocks hI hA hQ ⟨rfl, by rw [HE]⟩ (Nat.zero_le _) (Nat.zero_le _) dX3_passOneMinute_63
      | succ k ih =>
        intro n hnk i_ S6 H locs ls ei eS6 hI hl
        subst ei
        have hz9 := hWZ.n1
        have hC2 : CW Z S6 := by rw [eS6]; exact CW_passOneMinute_f hf3 n
        refine lv_iload_n hx hb dX3_passOneMinute_27 rfl (lv_at hl 0 rfl) ?_
        refine lv_aload_n hx hb dX3_passOneMinute_28 rfl (lv_at hl 1 rfl) ?_
        refine gX3_16 (i := 0) hx hb hts hown hK hI (by decide) dX3_passOneMinute_29 ?_
        refine cFv (rest := [.int (nI n)]) hx hb hml hts hown hK hE hI (cL_size G Z S6 1 (by decide)) kF_46 ⟨Nat.le_of_ble_eq_true rfl, Nat.le_of_ble_eq_true rfl⟩ rfl rfl (kk := 6) (ii := 1) (xW6 (by decide)) rfl rfl hl.1 rfl (Nat.le_of_ble_eq_true rfl) dX3_passOneMinute_32 ⟨Nat.zero_le _, Nat.zero_le _⟩ (fun H locs hI => ?_)
        refine lv_icmp_ge (tgt := 63) hx hb dX3_passOneMinute_37 (by decide) (fun h => absurd h (by rw [(rfl : nI (Z.N 1) = nI (Z.N 1))]; exact nI_ge (by omega) (by omega))) (fun _ => ?_)
        refine lv_aload_n hx hb dX3_passOneMinute_40 rfl (lv_at hl 1 rfl) ?_
        refine lv_aload_n hx hb dX3_passOneMinute_41 rfl (lv_at hl 1 rfl) ?_
        refine gX3_16 (i := 0) hx hb hts hown hK hI (by decide) dX3_passOneMinute_42 ?_
        refine lv_iload_n hx hb dX3_passOneMinute_45 rfl (lv_at hl 0 rfl) ?_
        refine cFv (rest := [.ref (Z.A 0 0)]) hx hb hml hts hown hK hE hI (cL_get G Z S6 1 (nI n) (by decide) (WZ.P hWZ 1 (by decide)) (vp_in_nI (by omega) hWZ.n1)) kF_71 ⟨Nat.le_of_ble_eq_true rfl, Nat.le_of_ble_eq_true rfl⟩ rfl rfl (kk := 6) (ii := 1) (xW6 (by decide)) rfl rfl hl.1 rfl (Nat.le_of_ble_eq_true rfl) dX3_passOneMinute_46 ⟨Nat.zero_le _, Nat.zero_le _⟩ (fun H locs hI => ?_)
        rw [nI_clamp (show n < 2 ^ 31 by have := hWZ.n1; omega)]
        refine va_castE hx hb hown (hts _ q434) (fx_recv hK hI.1 (xW2 (show n < Z.O 2 by have := hWZ.2.1; omega)) (q := (RX2, TX2, 8)) rfl) dX3_passOneMinute_51 ?_
        obtain ⟨S8, eS8⟩ : ∃ z : XS, z = X_moveOn Z S6 n := ⟨_, rfl⟩
        refine cV0 (rest := []) hx hb hml hts hown hK hE hI (cX_moveOn G Z S6 n (show n < Z.O 2 by have := hWZ.2.1; omega) hWZ hC2) kX3_248 ⟨Nat.le_of_ble_eq_true rfl, Nat.le_of_ble_eq_true rfl⟩ rfl rfl (kk := 0) (ii := 0) (xW0 (by decide)) rfl rfl hl.1 rfl (Nat.le_of_ble_eq_true rfl) dX3_passOneMinute_54 ⟨Nat.zero_le _, Nat.zero_le _⟩ (fun H locs hI => ?_)
        rw [← eS8] at hI
        obtain ⟨x9, ex9⟩ : ∃ z : Int32, z = (nI n) + 1 := ⟨_, rfl⟩
        refine lv_iinc (v := x9) (lv' := [(1, .int x9), (0, .ref (Z.A 0 0))]) hx hb dX3_passOneMinute_57 hl (k := 0) rfl (by rw [ex9]; rfl) (by decide) rfl (fun ls hl => ?_)
        refine lv_goto (tgt := 27) hx hb dX3_passOneMinute_60 (by decide) ?_
        have HE : X_passOneMinute_s S6 Z n = S8 := by subst ex9 eS8; exact rfl
        exact ih (n + 1) (by omega) x9 S8 H locs ls (by rw [ex9]; exact nI_1 n) (by show _ = X_passOneMinute_s (X_passOneMinute_f S2 Z n) Z n; rw [← eS6]; exact HE.symm) hI (lv_sub hl [0, 1] rfl)
    exact hL7 (Z.N 1) 0 (by omega) 0 S2 H locs ls nI_0.symm rfl hI (lv_sub hl [0, 1] rfl)
  refine lv_if_ne (tgt := 25) hx hb dX3_passOneMinute_18 (by decide) (fun c10 => ?_) (fun c10 => ?_)
  · exact hJ4 S1 _ _ (by exact (if_neg c10).symm) hI (CW_set eS1 hC)
  · refine lv_aload_n hx hb dX3_passOneMinute_21 rfl (lv_at hl 0 rfl) ?_
    obtain ⟨S11, eS11⟩ : ∃ z : XS, z = X_endDay Z S1 := ⟨_, rfl⟩
    refine cV0 (rest := []) hx hb hml hts hown hK hE hI (cX_endDay G Z S1 hWZ) kX3_245 ⟨Nat.le_of_ble_eq_true rfl, Nat.le_of_ble_eq_true rfl⟩ rfl rfl (kk := 0) (ii := 0) (xW0 (by decide)) rfl rfl hl.1 rfl (Nat.le_of_ble_eq_true rfl) dX3_passOneMinute_22 ⟨Nat.zero_le _, Nat.zero_le _⟩ (fun H locs hI => ?_)
    rw [← eS11] at hI
    exact hJ4 S11 _ _ (by subst eS11; exact (if_pos c10).symm) hI (eS11 ▸ (CW_endDay (CW_set eS1 hC)))

def X_kilosInVehicles_s (Z : XZ) (S : XS) (ug ub : Int32) (n : Nat) (a1 : Int32) : Int32 :=
  let x3 := if (S.2.2 n) = 0 then a1 else (if (S.1 3 (S.2.2 n - 1) 0) = ug then (if (bI ((S.1 2 n 3) = 4)) = ub then (a1 + (S.1 3 (S.2.2 n - 1) 1)) else a1) else a1)
  let x5 := (nI n) + 1
  x3
def X_kilosInVehicles_f (Z : XZ) (S : XS) (ug ub : Int32) : Nat → Int32
  | 0 => 0
  | n + 1 => X_kilosInVehicles_s Z S ug ub n (X_kilosInVehicles_f Z S ug ub n)

def X_kilosInVehicles (Z : XZ) (S : XS) (ug : Int32) (ub : Int32) : Int32 :=
  let a1 := X_kilosInVehicles_f Z S ug ub (Z.N 1)
  a1
set_option maxHeartbeats 4000000 in
set_option maxRecDepth 100000 in
theorem cX_kilosInVehicles (G : GX) (Z : XZ) (S : XS) (ug : Int32) (ub : Int32) (hWZ : WZ Z) (hC : CW Z S) : FC G yX3_kilosInVehicles cX3_kilosInVehicles 6 (some .int) ({ frames := 3, cells := 0, slots := 0, locals := 64 }) [.ref (Z.A 0 0), .int ug, .int ub] (xW G.2.2.2 G.2.1 Z S) (pv (.int (X_kilosInVehicles Z S ug ub)) (xW G.2.2.2 G.2.1 Z S)) := by
  refine FC.go (lv := [(0, .ref (Z.A 0 0)), (1, .int ug), (2, .int ub)]) (by decide) (Nat.le_of_ble_eq_true rfl) rfl (fun p e s m args below meth c A H locs ls Q hx hb hr hts hown hml hlocks hnm hK hE hI hA hl hQ => ?_)
  have hown : s.vm.findClass RX3 = some m.cls := hown
  have hz9 := hWZ.n0
  have hz8 := hWZ.n1
  have hz7 := hWZ.n2
  refine lv_iconst (v := 0) hx hb dX3_kilosInVehicles_0 (by decide) ?_
  refine lv_istore_n (lv' := [(3, .int 0), (0, .ref (Z.A 0 0)), (1, .int ug), (2, .int ub)]) hx hb dX3_kilosInVehicles_1 rfl hl (by decide) rfl (fun ls hl => ?_)
  refine lv_iconst (v := 0) hx hb dX3_kilosInVehicles_2 (by decide) ?_
  refine lv_istore (lv' := [(4, .int 0), (3, .int 0), (0, .ref (Z.A 0 0)), (1, .int ug), (2, .int ub)]) hx hb dX3_kilosInVehicles_3 hl (by decide) rfl (fun ls hl => ?_)
  have hL2 : ∀ (k n : Nat), n + k = Z.N 1 → ∀ (i_ : Int32) (a1 : Int32) (H : Heap) (locs : List Loc) (ls : Array Slot), (i_ = nI n) → (a1 = X_kilosInVehicles_f Z S ug ub n) → (fI G.2.2.1 A s.heap (xW G.2.2.2 G.2.1 Z S) H locs) → (lv_has ls 6 [(4, .int i_), (3, .int a1), (0, .ref (Z.A 0 0)), (1, .int ug), (2, .int ub)]) → W p G.1 e ({ frames := 3, cells := 0, slots := 0, locals := 64 }) s m args below meth c H locs 0 0 Q (F0 m 5 ls []) := by
    intro k
    induction k with
    | zero =>
      intro n hnk i_ a1 H locs ls ei ea1 hI hl
      subst ei
      have hz9 := hWZ.n1
      refine lv_iload hx hb dX3_kilosInVehicles_5 (lv_at hl 0 rfl) ?_
      refine lv_aload_n hx hb dX3_kilosInVehicles_7 rfl (lv_at hl 2 rfl) ?_
      refine gX3_16 (i := 0) hx hb hts hown hK hI (by decide) dX3_kilosInVehicles_8 ?_
      refine cFv (rest := [.int (nI n)]) hx hb hml hts hown hK hE hI (cL_size G Z S 1 (by decide)) kF_46 ⟨Nat.le_of_ble_eq_true rfl, Nat.le_of_ble_eq_true rfl⟩ rfl rfl (kk := 6) (ii := 1) (xW6 (by decide)) rfl rfl hl.1 rfl (Nat.le_of_ble_eq_true rfl) dX3_kilosInVehicles_11 ⟨Nat.zero_le _, Nat.zero_le _⟩ (fun H locs hI => ?_)
      refine lv_icmp_ge (tgt := 90) hx hb dX3_kilosInVehicles_16 (by decide) (fun _ => ?_) (fun h => absurd (by rw [(rfl : nI (Z.N 1) = nI (Z.N 1))]; exact nI_le (by omega) (by omega)) h)
      have hn9 : n = (Z.N 1) := by omega
      rw [hn9] at ea1
      have hl : lv_has ls 6 [(3, .int a1), (0, .ref (Z.A 0 0)), (1, .int ug), (2, .int ub)] := lv_sub hl [1, 2, 3, 4] rfl
      refine lv_iload_n hx hb dX3_kilosInVehicles_90 rfl (lv_at hl 0 rfl) ?_
      have HE : X_kilosInVehicles Z S ug ub = a1 := by subst ea1; exact rfl
      exact rt_i hx hb hr hlocks hI hA hQ ⟨by rw [HE], rfl⟩ (Nat.zero_le _) (Nat.zero_le _) dX3_kilosInVehicles_91
    | succ k ih =>
      intro n hnk i_ a1 H locs ls ei ea1 hI hl
      subst ei
      have hz9 := hWZ.n1
      refine lv_iload hx hb dX3_kilosInVehicles_5 (lv_at hl 0 rfl) ?_
      refine lv_aload_n hx hb dX3_kilosInVehicles_7 rfl (lv_at hl 2 rfl) ?_
      refine gX3_16 (i := 0) hx hb hts hown hK hI (by decide) dX3_kilosInVehicles_8 ?_
      refine cFv (rest := [.int (nI n)]) hx hb hml hts hown hK hE hI (cL_size G Z S 1 (by decide)) kF_46 ⟨Nat.le_of_ble_eq_true rfl, Nat.le_of_ble_eq_true rfl⟩ rfl rfl (kk := 6) (ii := 1) (xW6 (by decide)) rfl rfl hl.1 rfl (Nat.le_of_ble_eq_true rfl) dX3_kilosInVehicles_11 ⟨Nat.zero_le _, Nat.zero_le _⟩ (fun H locs hI => ?_)
      refine lv_icmp_ge (tgt := 90) hx hb dX3_kilosInVehicles_16 (by decide) (fun h => absurd h (by rw [(rfl : nI (Z.N 1) = nI (Z.N 1))]; exact nI_ge (by omega) (by omega))) (fun _ => ?_)
      refine lv_aload_n hx hb dX3_kilosInVehicles_19 rfl (lv_at hl 2 rfl) ?_
      refine gX3_16 (i := 0) hx hb hts hown hK hI (by decide) dX3_kilosInVehicles_20 ?_
      refine lv_iload hx hb dX3_kilosInVehicles_23 (lv_at hl 0 rfl) ?_
      refine cFv (rest := []) hx hb hml hts hown hK hE hI (cL_get G Z S 1 (nI n) (by decide) (WZ.P hWZ 1 (by decide)) (vp_in_nI (by omega) hWZ.n1)) kF_71 ⟨Nat.le_of_ble_eq_true rfl, Nat.le_of_ble_eq_true rfl⟩ rfl rfl (kk := 6) (ii := 1) (xW6 (by decide)) rfl rfl hl.1 rfl (Nat.le_of_ble_eq_true rfl) dX3_kilosInVehicles_25 ⟨Nat.zero_le _, Nat.zero_le _⟩ (fun H locs hI => ?_)
      rw [nI_clamp (show n < 2 ^ 31 by have := hWZ.n1; omega)]
      refine va_castE hx hb hown (hts _ q434) (fx_recv hK hI.1 (xW2 (show n < Z.O 2 by have := hWZ.2.1; omega)) (q := (RX2, TX2, 8)) rfl) dX3_kilosInVehicles_30 ?_
      refine lv_astore (lv' := [(5, .ref (Z.A 2 n)), (4, .int (nI n)), (3, .int a1), (0, .ref (Z.A 0 0)), (1, .int ug), (2, .int ub)]) hx hb dX3_kilosInVehicles_33 hl (by decide) rfl (fun ls hl => ?_)
      refine lv_aload hx hb dX3_kilosInVehicles_35 (lv_at hl 0 rfl) ?_
      refine gX3_128 (i := n) hx hb hts hown hK hI (show n < Z.O 2 by have := hWZ.2.1; omega) dX3_kilosInVehicles_37 ?_
      have hJ4 : ∀ (x3 : Int32) (ls : Array Slot), (x3 = if (S.2.2 n) = 0 then a1 else (if (S.1 3 (S.2.2 n - 1) 0) = ug then (if (bI ((S.1 2 n 3) = 4)) = ub then (a1 + (S.1 3 (S.2.2 n - 1) 1)) else a1) else a1)) → (lv_has ls 6 [(5, .ref (Z.A 2 n)), (4, .int (nI n)), (3, .int x3), (0, .ref (Z.A 0 0)), (1, .int ug), (2, .int ub)]) → W p G.1 e ({ frames := 3, cells := 0, slots := 0, locals := 64 }) s m args below meth c H locs 0 0 Q (F0 m 84 ls []) := by
        intro x3 ls ex3 hl
        obtain ⟨x5, ex5⟩ : ∃ z : Int32, z = (nI n) + 1 := ⟨_, rfl⟩
        refine lv_iinc (v := x5) (lv' := [(4, .int x5), (5, .ref (Z.A 2 n)), (3, .int x3), (0, .ref (Z.A 0 0)), (1, .int ug), (2, .int ub)]) hx hb dX3_kilosInVehicles_84 hl (k := 1) rfl (by rw [ex5]; rfl) (by decide) rfl (fun ls hl => ?_)
        refine lv_goto (tgt := 5) hx hb dX3_kilosInVehicles_87 (by decide) ?_
        have HE : X_kilosInVehicles_s Z S ug ub n a1 = x3 := by subst ex5 ex3; exact rfl
        exact ih (n + 1) (by omega) x5 x3 H locs ls (by rw [ex5]; exact nI_1 n) (by show _ = X_kilosInVehicles_s Z S ug ub n (X_kilosInVehicles_f Z S ug ub n); rw [← ea1]; exact HE.symm) hI (lv_sub hl [0, 2, 3, 4, 5] rfl)
      refine xb_ifnull (tgt := 84) hx hb dX3_kilosInVehicles_40 (by decide) (fun c6 => ?_) (fun c6 => ?_)
      · exact hJ4 a1 _ (by exact (if_pos c6).symm) (lv_sub hl [0, 1, 2, 3, 4, 5] rfl)
      · refine lv_aload hx hb dX3_kilosInVehicles_43 (lv_at hl 0 rfl) ?_
        refine gX3_128 (i := n) hx hb hts hown hK hI (show n < Z.O 2 by have := hWZ.2.1; omega) dX3_kilosInVehicles_45 ?_
        refine oV_go0 c6 ?_
        refine gX3_190 (i := S.2.2 n - 1) hx hb hts hown hK hI (cw_lt hC c6) dX3_kilosInVehicles_48 ?_
        refine lv_iload_n hx hb dX3_kilosInVehicles_51 rfl (lv_at hl 4 rfl) ?_
        refine lv_icmp_ne (tgt := 84) hx hb dX3_kilosInVehicles_52 (by decide) (fun c7 => ?_) (fun c7 => ?_)
        · exact hJ4 a1 _ (by exact ((if_neg c6).trans (if_neg c7)).symm) (lv_sub hl [0, 1, 2, 3, 4, 5] rfl)
        · refine lv_aload hx hb dX3_kilosInVehicles_55 (lv_at hl 0 rfl) ?_
          refine gX3_125 (i := n) hx hb hts hown hK hI (show n < Z.O 2 by have := hWZ.2.1; omega) dX3_kilosInVehicles_57 ?_
          refine lv_iconst (v := 4) hx hb dX3_kilosInVehicles_60 (by decide) ?_
          have hJ8 : W p G.1 e ({ frames := 3, cells := 0, slots := 0, locals := 64 }) s m args below meth c H locs 0 0 Q (F0 m 69 ls [.int (bI ((S.1 2 n 3) = 4))]) := by
            refine lv_iload_n hx hb dX3_kilosInVehicles_69 rfl (lv_at hl 5 rfl) ?_
            refine lv_icmp_ne (tgt := 84) hx hb dX3_kilosInVehicles_70 (by decide) (fun c9 => ?_) (fun c9 => ?_)
            · exact hJ4 a1 _ (by exact ((if_neg c6).trans ((if_pos c7).trans (if_neg c9))).symm) (lv_sub hl [0, 1, 2, 3, 4, 5] rfl)
            · refine lv_iload_n hx hb dX3_kilosInVehicles_73 rfl (lv_at hl 2 rfl) ?_
              refine lv_aload hx hb dX3_kilosInVehicles_74 (lv_at hl 0 rfl) ?_
              refine gX3_128 (i := n) hx hb hts hown hK hI (show n < Z.O 2 by have := hWZ.2.1; omega) dX3_kilosInVehicles_76 ?_
              refine oV_go0 c6 ?_
              refine gX3_187 (i := S.2.2 n - 1) hx hb hts hown hK hI (cw_lt hC c6) dX3_kilosInVehicles_79 ?_
              refine lv_iadd hx hb dX3_kilosInVehicles_82 ?_
              refine lv_istore_n (lv' := [(3, .int (a1 + (S.1 3 (S.2.2 n - 1) 1))), (5, .ref (Z.A 2 n)), (4, .int (nI n)), (0, .ref (Z.A 0 0)), (1, .int ug), (2, .int ub)]) hx hb dX3_kilosInVehicles_83 rfl hl (by decide) rfl (fun ls hl => ?_)
              exact hJ4 (a1 + (S.1 3 (S.2.2 n - 1) 1)) _ (by exact ((if_neg c6).trans ((if_pos c7).trans (if_pos c9))).symm) (lv_sub hl [1, 2, 0, 3, 4, 5] rfl)
          refine lv_icmp_ne (tgt := 68) hx hb dX3_kilosInVehicles_61 (by decide) (fun c10 => ?_) (fun c10 => ?_)
          · refine lv_iconst (v := 0) hx hb dX3_kilosInVehicles_68 (by decide) ?_
            have eb11 : (0 : Int32) = bI ((S.1 2 n 3) = 4) := (bI_f c10).symm
            rw [eb11]
            exact hJ8
          · refine lv_iconst (v := 1) hx hb dX3_kilosInVehicles_64 (by decide) ?_
            refine lv_goto (tgt := 69) hx hb dX3_kilosInVehicles_65 (by decide) ?_
            have eb12 : (1 : Int32) = bI ((S.1 2 n 3) = 4) := (bI_t c10).symm
            rw [eb12]
            exact hJ8
  exact hL2 (Z.N 1) 0 (by omega) 0 0 H locs ls nI_0.symm rfl hI (lv_sub hl [0, 1, 2, 3, 4] rfl)

def X_bill_s (Z : XZ) (S : XS) (n : Nat) (a1 : Int64) : Int64 :=
  let x3 := (nI n) + 1
  a1 + (((S.1 5 4 (nI n).toNatClampNeg).toInt64) + ((40 : Int64) * ((X_kilosMissing Z S (nI n)).toInt64)))
def X_bill_f (Z : XZ) (S : XS) : Nat → Int64
  | 0 => (0 : Int64)
  | n + 1 => X_bill_s Z S n (X_bill_f Z S n)

def X_bill (Z : XZ) (S : XS) : Int64 :=
  let a1 := X_bill_f Z S 3
  a1
set_option maxHeartbeats 4000000 in
set_option maxRecDepth 100000 in
theorem cX_bill (G : GX) (Z : XZ) (S : XS) : FC G yX3_bill cX3_bill 4 (some .long) ({ frames := 2, cells := 0, slots := 0, locals := 42 }) [.ref (Z.A 0 0)] (xW G.2.2.2 G.2.1 Z S) (pv (.long (X_bill Z S)) (xW G.2.2.2 G.2.1 Z S)) := by
  refine FC.go (lv := [(0, .ref (Z.A 0 0))]) (by decide) (Nat.le_of_ble_eq_true rfl) rfl (fun p e s m args below meth c A H locs ls Q hx hb hr hts hown hml hlocks hnm hK hE hI hA hl hQ => ?_)
  have hown : s.vm.findClass RX3 = some m.cls := hown
  refine lv_lconst (v := 0) hx hb dX3_bill_0 (by decide) ?_
  refine lv_lstore_n (lv' := [(1, .long (0 : Int64)), (0, .ref (Z.A 0 0))]) hx hb dX3_bill_1 rfl hl (by decide) rfl (fun ls hl => ?_)
  refine lv_iconst (v := 0) hx hb dX3_bill_2 (by decide) ?_
  refine lv_istore_n (lv' := [(3, .int 0), (1, .long (0 : Int64)), (0, .ref (Z.A 0 0))]) hx hb dX3_bill_3 rfl hl (by decide) rfl (fun ls hl => ?_)
  have hL2 : ∀ (k n : Nat), n + k = 3 → ∀ (i_ : Int32) (a1 : Int64) (H : Heap) (locs : List Loc) (ls : Array Slot), (i_ = nI n) → (a1 = X_bill_f Z S n) → (fI G.2.2.1 A s.heap (xW G.2.2.2 G.2.1 Z S) H locs) → (lv_has ls 4 [(3, .int i_), (1, .long a1), (0, .ref (Z.A 0 0))]) → W p G.1 e ({ frames := 2, cells := 0, slots := 0, locals := 42 }) s m args below meth c H locs 0 0 Q (F0 m 4 ls []) := by
    intro k
    induction k with
    | zero =>
      intro n hnk i_ a1 H locs ls ei ea1 hI hl
      subst ei
      refine lv_iload_n hx hb dX3_bill_4 rfl (lv_at hl 0 rfl) ?_
      refine lv_iconst (v := 3) hx hb dX3_bill_5 (by decide) ?_
      refine lv_icmp_ge (tgt := 36) hx hb dX3_bill_6 (by decide) (fun _ => ?_) (fun h => absurd (by rw [(show (3 : Int32) = nI 3 from rfl)]; exact nI_le (by omega) (by omega)) h)
      have hn9 : n = 3 := by omega
      rw [hn9] at ea1
      have hl : lv_has ls 4 [(1, .long a1), (0, .ref (Z.A 0 0))] := lv_sub hl [1, 2] rfl
      refine lv_lload_n hx hb dX3_bill_36 rfl (lv_at hl 0 rfl) ?_
      have HE : X_bill Z S = a1 := by subst ea1; exact rfl
      exact rt_l hx hb hr hlocks hI hA hQ ⟨by rw [HE], rfl⟩ (Nat.zero_le _) (Nat.zero_le _) dX3_bill_37
    | succ k ih =>
      intro n hnk i_ a1 H locs ls ei ea1 hI hl
      subst ei
      refine lv_iload_n hx hb dX3_bill_4 rfl (lv_at hl 0 rfl) ?_
      refine lv_iconst (v := 3) hx hb dX3_bill_5 (by decide) ?_
      refine lv_icmp_ge (tgt := 36) hx hb dX3_bill_6 (by decide) (fun h => absurd h (by rw [(show (3 : Int32) = nI 3 from rfl)]; exact nI_ge (by omega) (by omega))) (fun _ => ?_)
      refine lv_lload_n hx hb dX3_bill_9 rfl (lv_at hl 1 rfl) ?_
      refine lv_aload_n hx hb dX3_bill_10 rfl (lv_at hl 2 rfl) ?_
      refine gX3_26 (i := 0) hx hb hts hown hK hI (by decide) dX3_bill_11 ?_
      refine lv_iload_n hx hb dX3_bill_14 rfl (lv_at hl 0 rfl) ?_
      refine lX_5 (n := 4) hx hb hK hI (by decide) (vp_in_nI (by omega) (by decide)) dX3_bill_15 ?_
      refine lv_i2l hx hb dX3_bill_16 rfl ?_
      refine lv_ldc2 (v := 40) hx hb hown (hts _ q87) dX3_bill_17 ?_
      refine lv_aload_n hx hb dX3_bill_20 rfl (lv_at hl 2 rfl) ?_
      refine lv_iload_n hx hb dX3_bill_21 rfl (lv_at hl 0 rfl) ?_
      refine cVv (rest := [.long (40 : Int64), .long ((S.1 5 4 (nI n).toNatClampNeg).toInt64), .long a1]) hx hb hml hts hown hK hE hI (cX_kilosMissing G Z S (nI n)) kX3_216 ⟨Nat.le_of_ble_eq_true rfl, Nat.le_of_ble_eq_true rfl⟩ rfl rfl (kk := 0) (ii := 0) (xW0 (by decide)) rfl rfl hl.1 rfl (Nat.le_of_ble_eq_true rfl) dX3_bill_22 ⟨Nat.zero_le _, Nat.zero_le _⟩ (fun H locs hI => ?_)
      refine lv_i2l hx hb dX3_bill_25 rfl ?_
      refine lv_lmul hx hb dX3_bill_26 ?_
      refine lv_ladd hx hb dX3_bill_27 ?_
      refine lv_ladd hx hb dX3_bill_28 ?_
      refine lv_lstore_n (lv' := [(1, .long (a1 + (((S.1 5 4 (nI n).toNatClampNeg).toInt64) + ((40 : Int64) * ((X_kilosMissing Z S (nI n)).toInt64))))), (3, .int (nI n)), (0, .ref (Z.A 0 0))]) hx hb dX3_bill_29 rfl hl (by decide) rfl (fun ls hl => ?_)
      obtain ⟨x3, ex3⟩ : ∃ z : Int32, z = (nI n) + 1 := ⟨_, rfl⟩
      refine lv_iinc (v := x3) (lv' := [(3, .int x3), (1, .long (a1 + (((S.1 5 4 (nI n).toNatClampNeg).toInt64) + ((40 : Int64) * ((X_kilosMissing Z S (nI n)).toInt64))))), (0, .ref (Z.A 0 0))]) hx hb dX3_bill_30 hl (k := 1) rfl (by rw [ex3]; rfl) (by decide) rfl (fun ls hl => ?_)
      refine lv_goto (tgt := 4) hx hb dX3_bill_33 (by decide) ?_
      have HE : X_bill_s Z S n a1 = a1 + (((S.1 5 4 (nI n).toNatClampNeg).toInt64) + ((40 : Int64) * ((X_kilosMissing Z S (nI n)).toInt64))) := by subst ex3; exact rfl
      exact ih (n + 1) (by omega) x3 (a1 + (((S.1 5 4 (nI n).toNatClampNeg).toInt64) + ((40 : Int64) * ((X_kilosMissing Z S (nI n)).toInt64)))) H locs ls (by rw [ex3]; exact nI_1 n) (by show _ = X_bill_s Z S n (X_bill_f Z S n); rw [← ea1]; exact HE.symm) hI (lv_sub hl [0, 1, 2] rfl)
  exact hL2 3 0 (by omega) 0 (0 : Int64) H locs ls nI_0.symm rfl hI (lv_sub hl [0, 1, 2] rfl)

