theorem oV_succ {g : Nat → Nat} {i : Nat} : oV g (i + 1) = .ref (g i) := by
  rw [oV_n (by omega)]
  rfl
theorem lin_of {x : Int32} {n : Nat} (hn : n < 2 ^ 31) (h1 : ¬ x < 0) (h2 : x < nI n) : vp_in x n := by
  rw [vp_in_iff]
  rw [Int32.lt_iff_toInt_lt, Int32.toInt_zero] at h1
  rw [Int32.lt_iff_toInt_lt, nI_toInt hn] at h2
  omega
theorem i32_nle' {a b : Int32} (h : ¬ a ≤ b) : b < a := by
  rw [Int32.le_iff_toInt_le] at h
  rw [Int32.lt_iff_toInt_lt]
  omega
theorem lin3 {x : Int32} (h1 : ¬ x < 0) (h2 : x < 3) : vp_in x 3 := lin_of (by decide) h1 h2
theorem WZ.n0 {Z : XZ} (h : WZ Z) : Z.N 0 < 2 ^ 31 := by have := h.2.2.2.1; omega
theorem WZ.n1 {Z : XZ} (h : WZ Z) : Z.N 1 < 2 ^ 31 := by have := h.2.2.2.2.1; omega
theorem WZ.n2 {Z : XZ} (h : WZ Z) : Z.N 2 < 2 ^ 31 := by have := h.2.2.2.2.2.1; omega
def X_pieceAhead (Z : XZ) (S : XS) (jv : Nat) : Nat :=
  let x1 := if (S.1 2 jv 5) = 0 then ((S.1 2 jv 4) - 1) else (S.1 2 jv 4)
  if x1 < 0 then
    0
  else
    if x1 < (nI (Z.N 0)) then
      x1.toNatClampNeg + 1
    else
      0
set_option maxHeartbeats 4000000 in
set_option maxRecDepth 100000 in
theorem cX_pieceAhead (G : GX) (Z : XZ) (S : XS) (jv : Nat) (hjv : jv < Z.O 2) (hWZ : WZ Z) : FC G yX3_pieceAhead cX3_pieceAhead 3 (some (.object "Icehighway$Piece")) ({ frames := 3, cells := 0, slots := 0, locals := 64 }) [.ref (Z.A 0 0), .ref (Z.A 2 jv)] (xW G.2.2.2 G.2.1 Z S) (pv (oV (Z.A 1) (X_pieceAhead Z S jv)) (xW G.2.2.2 G.2.1 Z S)) := by
  refine FC.go (lv := [(0, .ref (Z.A 0 0)), (1, .ref (Z.A 2 jv))]) (by decide) (Nat.le_of_ble_eq_true rfl) rfl (fun p e s m args below meth c A H locs ls Q hx hb hr hts hown hml hlocks hnm hK hE hI hA hl hQ => ?_)
  have hown : s.vm.findClass RX3 = some m.cls := hown
  refine lv_aload_n hx hb dX3_pieceAhead_0 rfl (lv_at hl 1 rfl) ?_
  refine gX3_144 (i := jv) hx hb hts hown hK hI hjv dX3_pieceAhead_1 ?_
  have hJ2 : ∀ (x1 : Int32), (x1 = if (S.1 2 jv 5) = 0 then ((S.1 2 jv 4) - 1) else (S.1 2 jv 4)) → W p G.1 e ({ frames := 3, cells := 0, slots := 0, locals := 64 }) s m args below meth c H locs 0 0 Q (F0 m 20 ls [.int x1]) := by
    intro x1 ex1
    refine lv_istore_n (lv' := [(2, .int x1), (0, .ref (Z.A 0 0)), (1, .ref (Z.A 2 jv))]) hx hb dX3_pieceAhead_20 rfl hl (by decide) rfl (fun ls hl => ?_)
    refine lv_iload_n hx hb dX3_pieceAhead_21 rfl (lv_at hl 0 rfl) ?_
    refine lv_if_lt (tgt := 38) hx hb dX3_pieceAhead_22 (by decide) (fun c3 => ?_) (fun c3 => ?_)
    · refine lv_null hx hb dX3_pieceAhead_38 ?_
      refine lv_goto (tgt := 55) hx hb dX3_pieceAhead_39 (by decide) ?_
      have HE : X_pieceAhead Z S jv = 0 := by subst ex1; exact (if_pos c3)
      exact rt_a hx hb hr (Or.inl ⟨_, rfl⟩) hlocks (Or.inl rfl) hI hA hQ ⟨by rw [HE]; rfl, rfl⟩ (Nat.zero_le _) (Nat.zero_le _) dX3_pieceAhead_55
    · refine lv_iload_n hx hb dX3_pieceAhead_25 rfl (lv_at hl 0 rfl) ?_
      refine lv_aload_n hx hb dX3_pieceAhead_26 rfl (lv_at hl 1 rfl) ?_
      refine gX3_10 (i := 0) hx hb hts hown hK hI (by decide) dX3_pieceAhead_27 ?_
      refine cFv (rest := [.int x1]) hx hb hml hts hown hK hE hI (cL_size G Z S 0 (by decide)) kF_46 ⟨Nat.le_of_ble_eq_true rfl, Nat.le_of_ble_eq_true rfl⟩ rfl rfl (kk := 6) (ii := 0) (xW6 (by decide)) rfl rfl hl.1 rfl (Nat.le_of_ble_eq_true rfl) dX3_pieceAhead_30 ⟨Nat.zero_le _, Nat.zero_le _⟩ (fun H locs hI => ?_)
      refine lv_icmp_lt (tgt := 42) hx hb dX3_pieceAhead_35 (by decide) (fun c4 => ?_) (fun c4 => ?_)
      · refine lv_aload_n hx hb dX3_pieceAhead_42 rfl (lv_at hl 1 rfl) ?_
        refine gX3_10 (i := 0) hx hb hts hown hK hI (by decide) dX3_pieceAhead_43 ?_
        refine lv_iload_n hx hb dX3_pieceAhead_46 rfl (lv_at hl 0 rfl) ?_
        refine cFv (rest := []) hx hb hml hts hown hK hE hI (cL_get G Z S 0 x1 (by decide) (WZ.P hWZ 0 (by decide)) (lin_of hWZ.n0 c3 c4)) kF_71 ⟨Nat.le_of_ble_eq_true rfl, Nat.le_of_ble_eq_true rfl⟩ rfl rfl (kk := 6) (ii := 0) (xW6 (by decide)) rfl rfl hl.1 rfl (Nat.le_of_ble_eq_true rfl) dX3_pieceAhead_47 ⟨Nat.zero_le _, Nat.zero_le _⟩ (fun H locs hI => ?_)
        refine va_castE hx hb hown (hts _ q215) (fx_recv hK hI.1 (xW1 (wz_lt0 hWZ (lin_of hWZ.n0 c3 c4))) (q := (RX1, TX1, 16)) rfl) dX3_pieceAhead_52 ?_
        have HE : X_pieceAhead Z S jv = x1.toNatClampNeg + 1 := by subst ex1; exact (if_neg c3).trans ((if_pos c4))
        exact rt_a hx hb hr (Or.inl ⟨_, rfl⟩) hlocks (Or.inr ⟨_, rfl⟩) hI hA hQ ⟨by rw [HE]; rw [oV_succ], rfl⟩ (Nat.zero_le _) (Nat.zero_le _) dX3_pieceAhead_55
      · refine lv_null hx hb dX3_pieceAhead_38 ?_
        refine lv_goto (tgt := 55) hx hb dX3_pieceAhead_39 (by decide) ?_
        have HE : X_pieceAhead Z S jv = 0 := by subst ex1; exact (if_neg c3).trans ((if_neg c4))
        exact rt_a hx hb hr (Or.inl ⟨_, rfl⟩) hlocks (Or.inl rfl) hI hA hQ ⟨by rw [HE]; rfl, rfl⟩ (Nat.zero_le _) (Nat.zero_le _) dX3_pieceAhead_55
  refine lv_if_eq (tgt := 14) hx hb dX3_pieceAhead_4 (by decide) (fun c5 => ?_) (fun c5 => ?_)
  · refine lv_aload_n hx hb dX3_pieceAhead_14 rfl (lv_at hl 1 rfl) ?_
    refine gX3_193 (i := jv) hx hb hts hown hK hI hjv dX3_pieceAhead_15 ?_
    refine lv_iconst (v := 1) hx hb dX3_pieceAhead_18 (by decide) ?_
    refine lv_isub hx hb dX3_pieceAhead_19 ?_
    exact hJ2 ((S.1 2 jv 4) - 1) (by exact (if_pos c5).symm)
  · refine lv_aload_n hx hb dX3_pieceAhead_7 rfl (lv_at hl 1 rfl) ?_
    refine gX3_193 (i := jv) hx hb hts hown hK hI hjv dX3_pieceAhead_8 ?_
    refine lv_goto (tgt := 20) hx hb dX3_pieceAhead_11 (by decide) ?_
    exact hJ2 (S.1 2 jv 4) (by exact (if_neg c5).symm)

theorem pA_lt {Z : XZ} {S : XS} {j : Nat} (hWZ : WZ Z) (h : ¬ X_pieceAhead Z S j = 0) : X_pieceAhead Z S j - 1 < Z.O 1 := by
  unfold X_pieceAhead at h ⊢
  dsimp only at h ⊢
  revert h
  generalize (if S.1 2 j 5 = 0 then (S.1 2 j 4) - 1 else S.1 2 j 4) = x
  split
  · intro h
    exact absurd rfl h
  · rename_i h1
    split
    · rename_i h2
      intro _
      exact wz_lt0 hWZ (lin_of hWZ.n0 h1 h2)
    · intro h
      exact absurd rfl h
def X_whatIsAgainst (Z : XZ) (S : XS) (jv : Nat) : Int32 :=
  if (X_pieceAhead Z S jv) = 0 then
    1
  else
    if (S.1 1 (X_pieceAhead Z S jv - 1) 8) = 0 then
      1
    else
      if X_isWaterPiece Z S (X_pieceAhead Z S jv - 1) then
        if 0 ≤ (S.1 0 0 7) then
          if (S.1 1 (X_pieceAhead Z S jv - 1) 8) = 1 then
            if (X_weight Z S jv) ≤ 5000 then
              if (S.1 0 0 8) ≤ ((S.1 0 0 6) - (X_lastComing Z S (X_pieceAhead Z S jv - 1) (S.1 2 jv 5))) then
                if (S.1 1 (X_pieceAhead Z S jv - 1) 0) = 0 then
                  let x50 := if ((S.1 1 (X_pieceAhead Z S jv - 1) 13) + (X_weight Z S jv)) ≤ (X_bearsAs Z S (X_pieceAhead Z S jv - 1) 1) then 0 else 6
                  x50
                else
                  if (X_countOn Z S (X_pieceAhead Z S jv - 1) (bI ((S.1 2 jv 5) = 0))) ≤ 0 then
                    let x55 := if ((S.1 1 (X_pieceAhead Z S jv - 1) 13) + (X_weight Z S jv)) ≤ (X_bearsAs Z S (X_pieceAhead Z S jv - 1) 1) then 0 else 6
                    x55
                  else
                    5
              else
                4
            else
              3
          else
            if (S.1 0 0 8) ≤ ((S.1 0 0 6) - (X_lastComing Z S (X_pieceAhead Z S jv - 1) (S.1 2 jv 5))) then
              if (S.1 1 (X_pieceAhead Z S jv - 1) 0) = 0 then
                let x36 := if ((S.1 1 (X_pieceAhead Z S jv - 1) 13) + (X_weight Z S jv)) ≤ (X_bearsAs Z S (X_pieceAhead Z S jv - 1) 1) then 0 else 6
                x36
              else
                if (X_countOn Z S (X_pieceAhead Z S jv - 1) (bI ((S.1 2 jv 5) = 0))) ≤ 0 then
                  let x41 := if ((S.1 1 (X_pieceAhead Z S jv - 1) 13) + (X_weight Z S jv)) ≤ (X_bearsAs Z S (X_pieceAhead Z S jv - 1) 1) then 0 else 6
                  x41
                else
                  5
            else
              4
        else
          if ((S.1 0 0 6) - (S.1 0 0 6) / 1440 * 1440) < 480 then
            if (S.1 1 (X_pieceAhead Z S jv - 1) 8) = 1 then
              if (X_weight Z S jv) ≤ 5000 then
                if (S.1 0 0 8) ≤ ((S.1 0 0 6) - (X_lastComing Z S (X_pieceAhead Z S jv - 1) (S.1 2 jv 5))) then
                  if (S.1 1 (X_pieceAhead Z S jv - 1) 0) = 0 then
                    let x79 := if ((S.1 1 (X_pieceAhead Z S jv - 1) 13) + (X_weight Z S jv)) ≤ (X_bearsAs Z S (X_pieceAhead Z S jv - 1) 1) then 0 else 6
                    x79
                  else
                    if (X_countOn Z S (X_pieceAhead Z S jv - 1) (bI ((S.1 2 jv 5) = 0))) ≤ 0 then
                      let x84 := if ((S.1 1 (X_pieceAhead Z S jv - 1) 13) + (X_weight Z S jv)) ≤ (X_bearsAs Z S (X_pieceAhead Z S jv - 1) 1) then 0 else 6
                      x84
                    else
                      5
                else
                  4
              else
                3
            else
              if (S.1 0 0 8) ≤ ((S.1 0 0 6) - (X_lastComing Z S (X_pieceAhead Z S jv - 1) (S.1 2 jv 5))) then
                if (S.1 1 (X_pieceAhead Z S jv - 1) 0) = 0 then
                  let x65 := if ((S.1 1 (X_pieceAhead Z S jv - 1) 13) + (X_weight Z S jv)) ≤ (X_bearsAs Z S (X_pieceAhead Z S jv - 1) 1) then 0 else 6
                  x65
                else
                  if (X_countOn Z S (X_pieceAhead Z S jv - 1) (bI ((S.1 2 jv 5) = 0))) ≤ 0 then
                    let x70 := if ((S.1 1 (X_pieceAhead Z S jv - 1) 13) + (X_weight Z S jv)) ≤ (X_bearsAs Z S (X_pieceAhead Z S jv - 1) 1) then 0 else 6
                    x70
                  else
                    5
              else
                4
          else
            if 1199 < ((S.1 0 0 6) - (S.1 0 0 6) / 1440 * 1440) then
              if (S.1 1 (X_pieceAhead Z S jv - 1) 8) = 1 then
                if (X_weight Z S jv) ≤ 5000 then
                  if (S.1 0 0 8) ≤ ((S.1 0 0 6) - (X_lastComing Z S (X_pieceAhead Z S jv - 1) (S.1 2 jv 5))) then
                    if (S.1 1 (X_pieceAhead Z S jv - 1) 0) = 0 then
                      let x108 := if ((S.1 1 (X_pieceAhead Z S jv - 1) 13) + (X_weight Z S jv)) ≤ (X_bearsAs Z S (X_pieceAhead Z S jv - 1) 1) then 0 else 6
                      x108
                    else
                      if (X_countOn Z S (X_pieceAhead Z S jv - 1) (bI ((S.1 2 jv 5) = 0))) ≤ 0 then
                        let x113 := if ((S.1 1 (X_pieceAhead Z S jv - 1) 13) + (X_weight Z S jv)) ≤ (X_bearsAs Z S (X_pieceAhead Z S jv - 1) 1) then 0 else 6
                        x113
                      else
                        5
                  else
                    4
                else
                  3
              else
                if (S.1 0 0 8) ≤ ((S.1 0 0 6) - (X_lastComing Z S (X_pieceAhead Z S jv - 1) (S.1 2 jv 5))) then
                  if (S.1 1 (X_pieceAhead Z S jv - 1) 0) = 0 then
                    let x94 := if ((S.1 1 (X_pieceAhead Z S jv - 1) 13) + (X_weight Z S jv)) ≤ (X_bearsAs Z S (X_pieceAhead Z S jv - 1) 1) then 0 else 6
                    x94
                  else
                    if (X_countOn Z S (X_pieceAhead Z S jv - 1) (bI ((S.1 2 jv 5) = 0))) ≤ 0 then
                      let x99 := if ((S.1 1 (X_pieceAhead Z S jv - 1) 13) + (X_weight Z S jv)) ≤ (X_bearsAs Z S (X_pieceAhead Z S jv - 1) 1) then 0 else 6
                      x99
                    else
                      5
                else
                  4
            else
              2
      else
        if (S.1 1 (X_pieceAhead Z S jv - 1) 8) = 1 then
          if (X_weight Z S jv) ≤ 5000 then
            if (S.1 0 0 8) ≤ ((S.1 0 0 6) - (X_lastComing Z S (X_pieceAhead Z S jv - 1) (S.1 2 jv 5))) then
              if (S.1 1 (X_pieceAhead Z S jv - 1) 0) = 0 then
                let x21 := if ((S.1 1 (X_pieceAhead Z S jv - 1) 13) + (X_weight Z S jv)) ≤ (X_bearsAs Z S (X_pieceAhead Z S jv - 1) 1) then 0 else 6
                x21
              else
                if (X_countOn Z S (X_pieceAhead Z S jv - 1) (bI ((S.1 2 jv 5) = 0))) ≤ 0 then
                  let x26 := if ((S.1 1 (X_pieceAhead Z S jv - 1) 13) + (X_weight Z S jv)) ≤ (X_bearsAs Z S (X_pieceAhead Z S jv - 1) 1) then 0 else 6
                  x26
                else
                  5
            else
              4
          else
            3
        else
          if (S.1 0 0 8) ≤ ((S.1 0 0 6) - (X_lastComing Z S (X_pieceAhead Z S jv - 1) (S.1 2 jv 5))) then
            if (S.1 1 (X_pieceAhead Z S jv - 1) 0) = 0 then
              let x7 := if ((S.1 1 (X_pieceAhead Z S jv - 1) 13) + (X_weight Z S jv)) ≤ (X_bearsAs Z S (X_pieceAhead Z S jv - 1) 1) then 0 else 6
              x7
            else
              if (X_countOn Z S (X_pieceAhead Z S jv - 1) (bI ((S.1 2 jv 5) = 0))) ≤ 0 then
                let x12 := if ((S.1 1 (X_pieceAhead Z S jv - 1) 13) + (X_weight Z S jv)) ≤ (X_bearsAs Z S (X_pieceAhead Z S jv - 1) 1) then 0 else 6
                x12
              else
                5
          else
            4
set_option maxHeartbeats 4000000 in
set_option maxRecDepth 100000 in
theorem cX_whatIsAgainst (G : GX) (Z : XZ) (S : XS) (jv : Nat) (hjv : jv < Z.O 2) (hWZ : WZ Z) (hC : CW Z S) : FC G yX3_whatIsAgainst cX3_whatIsAgainst 5 (some .int) ({ frames := 4, cells := 0, slots := 0, locals := 86 }) [.ref (Z.A 0 0), .ref (Z.A 2 jv)] (xW G.2.2.2 G.2.1 Z S) (pv (.int (X_whatIsAgainst Z S jv)) (xW G.2.2.2 G.2.1 Z S)) := by
  refine FC.go (lv := [(0, .ref (Z.A 0 0)), (1, .ref (Z.A 2 jv))]) (by decide) (Nat.le_of_ble_eq_true rfl) rfl (fun p e s m args below meth c A H locs ls Q hx hb hr hts hown hml hlocks hnm hK hE hI hA hl hQ => ?_)
  have hown : s.vm.findClass RX3 = some m.cls := hown
  refine lv_aload_n hx hb dX3_whatIsAgainst_0 rfl (lv_at hl 0 rfl) ?_
  refine lv_aload_n hx hb dX3_whatIsAgainst_1 rfl (lv_at hl 1 rfl) ?_
  refine cVv (rest := []) hx hb hml hts hown hK hE hI (cX_pieceAhead G Z S jv hjv hWZ) kX3_269 ⟨Nat.le_of_ble_eq_true rfl, Nat.le_of_ble_eq_true rfl⟩ rfl rfl (kk := 0) (ii := 0) (xW0 (by decide)) rfl rfl hl.1 rfl (Nat.le_of_ble_eq_true rfl) dX3_whatIsAgainst_2 ⟨Nat.zero_le _, Nat.zero_le _⟩ (fun H locs hI => ?_)
  refine lv_astore_nR (lv' := [(2, (oV (Z.A 1) (X_pieceAhead Z S jv))), (0, .ref (Z.A 0 0)), (1, .ref (Z.A 2 jv))]) hx hb dX3_whatIsAgainst_5 rfl hl (by decide) rfl (fun ls hl => ?_)
  refine lv_aload_nR hx hb dX3_whatIsAgainst_6 rfl (lv_at hl 0 rfl) ?_
  refine xb_ifnull (tgt := 17) hx hb dX3_whatIsAgainst_7 (by decide) (fun c1 => ?_) (fun c1 => ?_)
  · refine lv_iconst (v := 1) hx hb dX3_whatIsAgainst_17 (by decide) ?_
    have HE : X_whatIsAgainst Z S jv = 1 := by exact (if_pos c1)
    exact rt_i hx hb hr hlocks hI hA hQ ⟨by rw [HE], rfl⟩ (Nat.zero_le _) (Nat.zero_le _) dX3_whatIsAgainst_18
  · rw [oV_n c1] at hl
    refine lv_aload_n hx hb dX3_whatIsAgainst_10 rfl (lv_at hl 0 rfl) ?_
    refine gX3_101 (i := X_pieceAhead Z S jv - 1) hx hb hts hown hK hI (pA_lt hWZ c1) dX3_whatIsAgainst_11 ?_
    refine lv_if_ne (tgt := 19) hx hb dX3_whatIsAgainst_14 (by decide) (fun c2 => ?_) (fun c2 => ?_)
    · refine lv_aload_n hx hb dX3_whatIsAgainst_19 rfl (lv_at hl 1 rfl) ?_
      refine gX3_32 (i := 0) hx hb hts hown hK hI (by decide) dX3_whatIsAgainst_20 ?_
      refine lv_sipush (v := 1440) hx hb dX3_whatIsAgainst_23 (by decide) ?_
      refine lv_irem hx hb dX3_whatIsAgainst_26 (by decide) ?_
      refine lv_istore_n (lv' := [(3, .int ((S.1 0 0 6) - (S.1 0 0 6) / 1440 * 1440)), (2, .ref (Z.A 1 (X_pieceAhead Z S jv - 1))), (0, .ref (Z.A 0 0)), (1, .ref (Z.A 2 jv))]) hx hb dX3_whatIsAgainst_27 rfl hl (by decide) rfl (fun ls hl => ?_)
      refine lv_aload_n hx hb dX3_whatIsAgainst_28 rfl (lv_at hl 1 rfl) ?_
      refine cVv (rest := []) hx hb hml hts hown hK hE hI (cX_isWaterPiece G Z S (X_pieceAhead Z S jv - 1) (pA_lt hWZ c1)) kX3_82 ⟨Nat.le_of_ble_eq_true rfl, Nat.le_of_ble_eq_true rfl⟩ rfl rfl (kk := 1) (ii := X_pieceAhead Z S jv - 1) (xW1 (pA_lt hWZ c1)) rfl rfl hl.1 rfl (Nat.le_of_ble_eq_true rfl) dX3_whatIsAgainst_29 ⟨Nat.zero_le _, Nat.zero_le _⟩ (fun H locs hI => ?_)
      refine xb_eq (tgt := 58) hx hb dX3_whatIsAgainst_32 (by decide) (fun c3 => ?_) (fun c3 => ?_)
      · refine lv_aload_n hx hb dX3_whatIsAgainst_58 rfl (lv_at hl 3 rfl) ?_
        refine cVv (rest := []) hx hb hml hts hown hK hE hI (cX_weight G Z S jv hjv hC) kX3_139 ⟨Nat.le_of_ble_eq_true rfl, Nat.le_of_ble_eq_true rfl⟩ rfl rfl (kk := 2) (ii := jv) (xW2 hjv) rfl rfl hl.1 rfl (Nat.le_of_ble_eq_true rfl) dX3_whatIsAgainst_59 ⟨Nat.zero_le _, Nat.zero_le _⟩ (fun H locs hI => ?_)
        refine lv_istore (lv' := [(4, .int (X_weight Z S jv)), (3, .int ((S.1 0 0 6) - (S.1 0 0 6) / 1440 * 1440)), (2, .ref (Z.A 1 (X_pieceAhead Z S jv - 1))), (0, .ref (Z.A 0 0)), (1, .ref (Z.A 2 jv))]) hx hb dX3_whatIsAgainst_62 hl (by decide) rfl (fun ls hl => ?_)
        refine lv_aload_n hx hb dX3_whatIsAgainst_64 rfl (lv_at hl 2 rfl) ?_
        refine gX3_101 (i := X_pieceAhead Z S jv - 1) hx hb hts hown hK hI (pA_lt hWZ c1) dX3_whatIsAgainst_65 ?_
        refine lv_iconst (v := 1) hx hb dX3_whatIsAgainst_68 (by decide) ?_
        refine lv_icmp_ne (tgt := 82) hx hb dX3_whatIsAgainst_69 (by decide) (fun c4 => ?_) (fun c4 => ?_)
        · refine lv_aload_n hx hb dX3_whatIsAgainst_82 rfl (lv_at hl 3 rfl) ?_
          refine gX3_32 (i := 0) hx hb hts hown hK hI (by decide) dX3_whatIsAgainst_83 ?_
          refine lv_aload_n hx hb dX3_whatIsAgainst_86 rfl (lv_at hl 2 rfl) ?_
          refine lv_aload_n hx hb dX3_whatIsAgainst_87 rfl (lv_at hl 4 rfl) ?_
          refine gX3_144 (i := jv) hx hb hts hown hK hI hjv dX3_whatIsAgainst_88 ?_
          refine cVv (rest := [.int (S.1 0 0 6)]) hx hb hml hts hown hK hE hI (cX_lastComing G Z S (X_pieceAhead Z S jv - 1) (S.1 2 jv 5) (pA_lt hWZ c1)) kX3_286 ⟨Nat.le_of_ble_eq_true rfl, Nat.le_of_ble_eq_true rfl⟩ rfl rfl (kk := 1) (ii := X_pieceAhead Z S jv - 1) (xW1 (pA_lt hWZ c1)) rfl rfl hl.1 rfl (Nat.le_of_ble_eq_true rfl) dX3_whatIsAgainst_91 ⟨Nat.zero_le _, Nat.zero_le _⟩ (fun H locs hI => ?_)
          refine lv_isub hx hb dX3_whatIsAgainst_94 ?_
          refine lv_aload_n hx hb dX3_whatIsAgainst_95 rfl (lv_at hl 3 rfl) ?_
          refine gX3_39 (i := 0) hx hb hts hown hK hI (by decide) dX3_whatIsAgainst_96 ?_
          refine lv_icmp_ge (tgt := 104) hx hb dX3_whatIsAgainst_99 (by decide) (fun c5 => ?_) (fun c5 => ?_)
          · refine lv_aload_n hx hb dX3_whatIsAgainst_104 rfl (lv_at hl 2 rfl) ?_
            refine gX3_289 (i := X_pieceAhead Z S jv - 1) hx hb hts hown hK hI (pA_lt hWZ c1) dX3_whatIsAgainst_105 ?_
            refine lv_if_eq (tgt := 132) hx hb dX3_whatIsAgainst_108 (by decide) (fun c6 => ?_) (fun c6 => ?_)
            · refine lv_aload_n hx hb dX3_whatIsAgainst_132 rfl (lv_at hl 2 rfl) ?_
              refine gX3_277 (i := X_pieceAhead Z S jv - 1) hx hb hts hown hK hI (pA_lt hWZ c1) dX3_whatIsAgainst_133 ?_
              refine lv_iload hx hb dX3_whatIsAgainst_136 (lv_at hl 0 rfl) ?_
              refine lv_iadd hx hb dX3_whatIsAgainst_138 ?_
              refine lv_aload_n hx hb dX3_whatIsAgainst_139 rfl (lv_at hl 2 rfl) ?_
              refine lv_iconst (v := 1) hx hb dX3_whatIsAgainst_140 (by decide) ?_
              refine cVv (rest := [.int ((S.1 1 (X_pieceAhead Z S jv - 1) 13) + (X_weight Z S jv))]) hx hb hml hts hown hK hE hI (cX_bearsAs G Z S (X_pieceAhead Z S jv - 1) 1 (pA_lt hWZ c1)) kX3_183 ⟨Nat.le_of_ble_eq_true rfl, Nat.le_of_ble_eq_true rfl⟩ rfl rfl (kk := 1) (ii := X_pieceAhead Z S jv - 1) (xW1 (pA_lt hWZ c1)) rfl rfl hl.1 rfl (Nat.le_of_ble_eq_true rfl) dX3_whatIsAgainst_141 ⟨Nat.zero_le _, Nat.zero_le _⟩ (fun H locs hI => ?_)
              have hJ8 : ∀ (x7 : Int32), (x7 = if ((S.1 1 (X_pieceAhead Z S jv - 1) 13) + (X_weight Z S jv)) ≤ (X_bearsAs Z S (X_pieceAhead Z S jv - 1) 1) then 0 else 6) → W p G.1 e ({ frames := 4, cells := 0, slots := 0, locals := 86 }) s m args below meth c H locs 0 0 Q (F0 m 153 ls [.int x7]) := by
                intro x7 ex7
                have HE : X_whatIsAgainst Z S jv = x7 := by subst ex7; exact (if_neg c1).trans ((if_neg c2).trans ((if_neg c3).trans ((if_neg c4).trans ((if_pos c5).trans ((if_pos c6))))))
                exact rt_i hx hb hr hlocks hI hA hQ ⟨by rw [HE], rfl⟩ (Nat.zero_le _) (Nat.zero_le _) dX3_whatIsAgainst_153
              refine lv_icmp_le (tgt := 152) hx hb dX3_whatIsAgainst_144 (by decide) (fun c9 => ?_) (fun c9 => ?_)
              · refine lv_iconst (v := 0) hx hb dX3_whatIsAgainst_152 (by decide) ?_
                exact hJ8 0 (by exact (if_pos c9).symm)
              · refine lv_bipush (v := 6) hx hb dX3_whatIsAgainst_147 (by decide) ?_
                refine lv_goto (tgt := 153) hx hb dX3_whatIsAgainst_149 (by decide) ?_
                exact hJ8 6 (by exact (if_neg c9).symm)
            · refine lv_aload_n hx hb dX3_whatIsAgainst_111 rfl (lv_at hl 2 rfl) ?_
              refine lv_aload_n hx hb dX3_whatIsAgainst_112 rfl (lv_at hl 4 rfl) ?_
              refine gX3_144 (i := jv) hx hb hts hown hK hI hjv dX3_whatIsAgainst_113 ?_
              have hJ10 : W p G.1 e ({ frames := 4, cells := 0, slots := 0, locals := 86 }) s m args below meth c H locs 0 0 Q (F0 m 124 ls [.int (bI ((S.1 2 jv 5) = 0)), .ref (Z.A 1 (X_pieceAhead Z S jv - 1))]) := by
                refine cVv (rest := []) hx hb hml hts hown hK hE hI (cX_countOn G Z S (X_pieceAhead Z S jv - 1) (bI ((S.1 2 jv 5) = 0)) (pA_lt hWZ c1)) kX3_292 ⟨Nat.le_of_ble_eq_true rfl, Nat.le_of_ble_eq_true rfl⟩ rfl rfl (kk := 1) (ii := X_pieceAhead Z S jv - 1) (xW1 (pA_lt hWZ c1)) rfl rfl hl.1 rfl (Nat.le_of_ble_eq_true rfl) dX3_whatIsAgainst_124 ⟨Nat.zero_le _, Nat.zero_le _⟩ (fun H locs hI => ?_)
                refine lv_if_le (tgt := 132) hx hb dX3_whatIsAgainst_127 (by decide) (fun c11 => ?_) (fun c11 => ?_)
                · refine lv_aload_n hx hb dX3_whatIsAgainst_132 rfl (lv_at hl 2 rfl) ?_
                  refine gX3_277 (i := X_pieceAhead Z S jv - 1) hx hb hts hown hK hI (pA_lt hWZ c1) dX3_whatIsAgainst_133 ?_
                  refine lv_iload hx hb dX3_whatIsAgainst_136 (lv_at hl 0 rfl) ?_
                  refine lv_iadd hx hb dX3_whatIsAgainst_138 ?_
                  refine lv_aload_n hx hb dX3_whatIsAgainst_139 rfl (lv_at hl 2 rfl) ?_
                  refine lv_iconst (v := 1) hx hb dX3_whatIsAgainst_140 (by decide) ?_
                  refine cVv (rest := [.int ((S.1 1 (X_pieceAhead Z S jv - 1) 13) + (X_weight Z S jv))]) hx hb hml hts hown hK hE hI (cX_bearsAs G Z S (X_pieceAhead Z S jv - 1) 1 (pA_lt hWZ c1)) kX3_183 ⟨Nat.le_of_ble_eq_true rfl, Nat.le_of_ble_eq_true rfl⟩ rfl rfl (kk := 1) (ii := X_pieceAhead Z S jv - 1) (xW1 (pA_lt hWZ c1)) rfl rfl hl.1 rfl (Nat.le_of_ble_eq_true rfl) dX3_whatIsAgainst_141 ⟨Nat.zero_le _, Nat.zero_le _⟩ (fun H locs hI => ?_)
                  have hJ13 : ∀ (x12 : Int32), (x12 = if ((S.1 1 (X_pieceAhead Z S jv - 1) 13) + (X_weight Z S jv)) ≤ (X_bearsAs Z S (X_pieceAhead Z S jv - 1) 1) then 0 else 6) → W p G.1 e ({ frames := 4, cells := 0, slots := 0, locals := 86 }) s m args below meth c H locs 0 0 Q (F0 m 153 ls [.int x12]) := by
                    intro x12 ex12
                    have HE : X_whatIsAgainst Z S jv = x12 := by subst ex12; exact (if_neg c1).trans ((if_neg c2).trans ((if_neg c3).trans ((if_neg c4).trans ((if_pos c5).trans ((if_neg c6).trans ((if_pos c11)))))))
                    exact rt_i hx hb hr hlocks hI hA hQ ⟨by rw [HE], rfl⟩ (Nat.zero_le _) (Nat.zero_le _) dX3_whatIsAgainst_153
                  refine lv_icmp_le (tgt := 152) hx hb dX3_whatIsAgainst_144 (by decide) (fun c14 => ?_) (fun c14 => ?_)
                  · refine lv_iconst (v := 0) hx hb dX3_whatIsAgainst_152 (by decide) ?_
                    exact hJ13 0 (by exact (if_pos c14).symm)
                  · refine lv_bipush (v := 6) hx hb dX3_whatIsAgainst_147 (by decide) ?_
                    refine lv_goto (tgt := 153) hx hb dX3_whatIsAgainst_149 (by decide) ?_
                    exact hJ13 6 (by exact (if_neg c14).symm)
                · refine lv_iconst (v := 5) hx hb dX3_whatIsAgainst_130 (by decide) ?_
                  have HE : X_whatIsAgainst Z S jv = 5 := by exact (if_neg c1).trans ((if_neg c2).trans ((if_neg c3).trans ((if_neg c4).trans ((if_pos c5).trans ((if_neg c6).trans ((if_neg c11)))))))
                  exact rt_i hx hb hr hlocks hI hA hQ ⟨by rw [HE], rfl⟩ (Nat.zero_le _) (Nat.zero_le _) dX3_whatIsAgainst_131
              refine lv_if_ne (tgt := 123) hx hb dX3_whatIsAgainst_116 (by decide) (fun c15 => ?_) (fun c15 => ?_)
              · refine lv_iconst (v := 0) hx hb dX3_whatIsAgainst_123 (by decide) ?_
                have eb16 : (0 : Int32) = bI ((S.1 2 jv 5) = 0) := (bI_f c15).symm
                rw [eb16]
                exact hJ10
              · refine lv_iconst (v := 1) hx hb dX3_whatIsAgainst_119 (by decide) ?_
                refine lv_goto (tgt := 124) hx hb dX3_whatIsAgainst_120 (by decide) ?_
                have eb17 : (1 : Int32) = bI ((S.1 2 jv 5) = 0) := (bI_t c15).symm
                rw [eb17]
                exact hJ10
          · refine lv_iconst (v := 4) hx hb dX3_whatIsAgainst_102 (by decide) ?_
            have HE : X_whatIsAgainst Z S jv = 4 := by exact (if_neg c1).trans ((if_neg c2).trans ((if_neg c3).trans ((if_neg c4).trans ((if_neg c5)))))
            exact rt_i hx hb hr hlocks hI hA hQ ⟨by rw [HE], rfl⟩ (Nat.zero_le _) (Nat.zero_le _) dX3_whatIsAgainst_103
        · refine lv_iload hx hb dX3_whatIsAgainst_72 (lv_at hl 0 rfl) ?_
          refine lv_sipush (v := 5000) hx hb dX3_whatIsAgainst_74 (by decide) ?_
          refine lv_icmp_le (tgt := 82) hx hb dX3_whatIsAgainst_77 (by decide) (fun c18 => ?_) (fun c18 => ?_)
          · refine lv_aload_n hx hb dX3_whatIsAgainst_82 rfl (lv_at hl 3 rfl) ?_
            refine gX3_32 (i := 0) hx hb hts hown hK hI (by decide) dX3_whatIsAgainst_83 ?_
            refine lv_aload_n hx hb dX3_whatIsAgainst_86 rfl (lv_at hl 2 rfl) ?_
            refine lv_aload_n hx hb dX3_whatIsAgainst_87 rfl (lv_at hl 4 rfl) ?_
            refine gX3_144 (i := jv) hx hb hts hown hK hI hjv dX3_whatIsAgainst_88 ?_
            refine cVv (rest := [.int (S.1 0 0 6)]) hx hb hml hts hown hK hE hI (cX_lastComing G Z S (X_pieceAhead Z S jv - 1) (S.1 2 jv 5) (pA_lt hWZ c1)) kX3_286 ⟨Nat.le_of_ble_eq_true rfl, Nat.le_of_ble_eq_true rfl⟩ rfl rfl (kk := 1) (ii := X_pieceAhead Z S jv - 1) (xW1 (pA_lt hWZ c1)) rfl rfl hl.1 rfl (Nat.le_of_ble_eq_true rfl) dX3_whatIsAgainst_91 ⟨Nat.zero_le _, Nat.zero_le _⟩ (fun H locs hI => ?_)
            refine lv_isub hx hb dX3_whatIsAgainst_94 ?_
            refine lv_aload_n hx hb dX3_whatIsAgainst_95 rfl (lv_at hl 3 rfl) ?_
            refine gX3_39 (i := 0) hx hb hts hown hK hI (by decide) dX3_whatIsAgainst_96 ?_
            refine lv_icmp_ge (tgt := 104) hx hb dX3_whatIsAgainst_99 (by decide) (fun c19 => ?_) (fun c19 => ?_)
            · refine lv_aload_n hx hb dX3_whatIsAgainst_104 rfl (lv_at hl 2 rfl) ?_
              refine gX3_289 (i := X_pieceAhead Z S jv - 1) hx hb hts hown hK hI (pA_lt hWZ c1) dX3_whatIsAgainst_105 ?_
              refine lv_if_eq (tgt := 132) hx hb dX3_whatIsAgainst_108 (by decide) (fun c20 => ?_) (fun c20 => ?_)
              · refine lv_aload_n hx hb dX3_whatIsAgainst_132 rfl (lv_at hl 2 rfl) ?_
                refine gX3_277 (i := X_pieceAhead Z S jv - 1) hx hb hts hown hK hI (pA_lt hWZ c1) dX3_whatIsAgainst_133 ?_
                refine lv_iload hx hb dX3_whatIsAgainst_136 (lv_at hl 0 rfl) ?_
                refine lv_iadd hx hb dX3_whatIsAgainst_138 ?_
                refine lv_aload_n hx hb dX3_whatIsAgainst_139 rfl (lv_at hl 2 rfl) ?_
                refine lv_iconst (v := 1) hx hb dX3_whatIsAgainst_140 (by decide) ?_
                refine cVv (rest := [.int ((S.1 1 (X_pieceAhead Z S jv - 1) 13) + (X_weight Z S jv))]) hx hb hml hts hown hK hE hI (cX_bearsAs G Z S (X_pieceAhead Z S jv - 1) 1 (pA_lt hWZ c1)) kX3_183 ⟨Nat.le_of_ble_eq_true rfl, Nat.le_of_ble_eq_true rfl⟩ rfl rfl (kk := 1) (ii := X_pieceAhead Z S jv - 1) (xW1 (pA_lt hWZ c1)) rfl rfl hl.1 rfl (Nat.le_of_ble_eq_true rfl) dX3_whatIsAgainst_141 ⟨Nat.zero_le _, Nat.zero_le _⟩ (fun H locs hI => ?_)
                have hJ22 : ∀ (x21 : Int32), (x21 = if ((S.1 1 (X_pieceAhead Z S jv - 1) 13) + (X_weight Z S jv)) ≤ (X_bearsAs Z S (X_pieceAhead Z S jv - 1) 1) then 0 else 6) → W p G.1 e ({ frames := 4, cells := 0, slots := 0, locals := 86 }) s m args below meth c H locs 0 0 Q (F0 m 153 ls [.int x21]) := by
                  intro x21 ex21
                  have HE : X_whatIsAgainst Z S jv = x21 := by subst ex21; exact (if_neg c1).trans ((if_neg c2).trans ((if_neg c3).trans ((if_pos c4).trans ((if_pos c18).trans ((if_pos c19).trans ((if_pos c20)))))))
                  exact rt_i hx hb hr hlocks hI hA hQ ⟨by rw [HE], rfl⟩ (Nat.zero_le _) (Nat.zero_le _) dX3_whatIsAgainst_153
                refine lv_icmp_le (tgt := 152) hx hb dX3_whatIsAgainst_144 (by decide) (fun c23 => ?_) (fun c23 => ?_)
                · refine lv_iconst (v := 0) hx hb dX3_whatIsAgainst_152 (by decide) ?_
                  exact hJ22 0 (by exact (if_pos c23).symm)
                · refine lv_bipush (v := 6) hx hb dX3_whatIsAgainst_147 (by decide) ?_
                  refine lv_goto (tgt := 153) hx hb dX3_whatIsAgainst_149 (by decide) ?_
                  exact hJ22 6 (by exact (if_neg c23).symm)
              · refine lv_aload_n hx hb dX3_whatIsAgainst_111 rfl (lv_at hl 2 rfl) ?_
                refine lv_aload_n hx hb dX3_whatIsAgainst_112 rfl (lv_at hl 4 rfl) ?_
                refine gX3_144 (i := jv) hx hb hts hown hK hI hjv dX3_whatIsAgainst_113 ?_
                have hJ24 : W p G.1 e ({ frames := 4, cells := 0, slots := 0, locals := 86 }) s m args below meth c H locs 0 0 Q (F0 m 124 ls [.int (bI ((S.1 2 jv 5) = 0)), .ref (Z.A 1 (X_pieceAhead Z S jv - 1))]) := by
                  refine cVv (rest := []) hx hb hml hts hown hK hE hI (cX_countOn G Z S (X_pieceAhead Z S jv - 1) (bI ((S.1 2 jv 5) = 0)) (pA_lt hWZ c1)) kX3_292 ⟨Nat.le_of_ble_eq_true rfl, Nat.le_of_ble_eq_true rfl⟩ rfl rfl (kk := 1) (ii := X_pieceAhead Z S jv - 1) (xW1 (pA_lt hWZ c1)) rfl rfl hl.1 rfl (Nat.le_of_ble_eq_true rfl) dX3_whatIsAgainst_124 ⟨Nat.zero_le _, Nat.zero_le _⟩ (fun H locs hI => ?_)
                  refine lv_if_le (tgt := 132) hx hb dX3_whatIsAgainst_127 (by decide) (fun c25 => ?_) (fun c25 => ?_)
                  · refine lv_aload_n hx hb dX3_whatIsAgainst_132 rfl (lv_at hl 2 rfl) ?_
                    refine gX3_277 (i := X_pieceAhead Z S jv - 1) hx hb hts hown hK hI (pA_lt hWZ c1) dX3_whatIsAgainst_133 ?_
                    refine lv_iload hx hb dX3_whatIsAgainst_136 (lv_at hl 0 rfl) ?_
                    refine lv_iadd hx hb dX3_whatIsAgainst_138 ?_
                    refine lv_aload_n hx hb dX3_whatIsAgainst_139 rfl (lv_at hl 2 rfl) ?_
                    refine lv_iconst (v := 1) hx hb dX3_whatIsAgainst_140 (by decide) ?_
                    refine cVv (rest := [.int ((S.1 1 (X_pieceAhead Z S jv - 1) 13) + (X_weight Z S jv))]) hx hb hml hts hown hK hE hI (cX_bearsAs G Z S (X_pieceAhead Z S jv - 1) 1 (pA_lt hWZ c1)) kX3_183 ⟨Nat.le_of_ble_eq_true rfl, Nat.le_of_ble_eq_true rfl⟩ rfl rfl (kk := 1) (ii := X_pieceAhead Z S jv - 1) (xW1 (pA_lt hWZ c1)) rfl rfl hl.1 rfl (Nat.le_of_ble_eq_true rfl) dX3_whatIsAgainst_141 ⟨Nat.zero_le _, Nat.zero_le _⟩ (fun H locs hI => ?_)
                    have hJ27 : ∀ (x26 : Int32), (x26 = if ((S.1 1 (X_pieceAhead Z S jv - 1) 13) + (X_weight Z S jv)) ≤ (X_bearsAs Z S (X_pieceAhead Z S jv - 1) 1) then 0 else 6) → W p G.1 e ({ frames := 4, cells := 0, slots := 0, locals := 86 }) s m args below meth c H locs 0 0 Q (F0 m 153 ls [.int x26]) := by
                      intro x26 ex26
                      have HE : X_whatIsAgainst Z S jv = x26 := by subst ex26; exact (if_neg c1).trans ((if_neg c2).trans ((if_neg c3).trans ((if_pos c4).trans ((if_pos c18).trans ((if_pos c19).trans ((if_neg c20).trans ((if_pos c25))))))))
                      exact rt_i hx hb hr hlocks hI hA hQ ⟨by rw [HE], rfl⟩ (Nat.zero_le _) (Nat.zero_le _) dX3_whatIsAgainst_153
                    refine lv_icmp_le (tgt := 152) hx hb dX3_whatIsAgainst_144 (by decide) (fun c28 => ?_) (fun c28 => ?_)
                    · refine lv_iconst (v := 0) hx hb dX3_whatIsAgainst_152 (by decide) ?_
                      exact hJ27 0 (by exact (if_pos c28).symm)
                    · refine lv_bipush (v := 6) hx hb dX3_whatIsAgainst_147 (by decide) ?_
                      refine lv_goto (tgt := 153) hx hb dX3_whatIsAgainst_149 (by decide) ?_
                      exact hJ27 6 (by exact (if_neg c28).symm)
                  · refine lv_iconst (v := 5) hx hb dX3_whatIsAgainst_130 (by decide) ?_
                    have HE : X_whatIsAgainst Z S jv = 5 := by exact (if_neg c1).trans ((if_neg c2).trans ((if_neg c3).trans ((if_pos c4).trans ((if_pos c18).trans ((if_pos c19).trans ((if_neg c20).trans ((if_neg c25))))))))
                    exact rt_i hx hb hr hlocks hI hA hQ ⟨by rw [HE], rfl⟩ (Nat.zero_le _) (Nat.zero_le _) dX3_whatIsAgainst_131
                refine lv_if_ne (tgt := 123) hx hb dX3_whatIsAgainst_116 (by decide) (fun c29 => ?_) (fun c29 => ?_)
                · refine lv_iconst (v := 0) hx hb dX3_whatIsAgainst_123 (by decide) ?_
                  have eb30 : (0 : Int32) = bI ((S.1 2 jv 5) = 0) := (bI_f c29).symm
                  rw [eb30]
                  exact hJ24
                · refine lv_iconst (v := 1) hx hb dX3_whatIsAgainst_119 (by decide) ?_
                  refine lv_goto (tgt := 124) hx hb dX3_whatIsAgainst_120 (by decide) ?_
                  have eb31 : (1 : Int32) = bI ((S.1 2 jv 5) = 0) := (bI_t c29).symm
                  rw [eb31]
                  exact hJ24
            · refine lv_iconst (v := 4) hx hb dX3_whatIsAgainst_102 (by decide) ?_
              have HE : X_whatIsAgainst Z S jv = 4 := by exact (if_neg c1).trans ((if_neg c2).trans ((if_neg c3).trans ((if_pos c4).trans ((if_pos c18).trans ((if_neg c19))))))
              exact rt_i hx hb hr hlocks hI hA hQ ⟨by rw [HE], rfl⟩ (Nat.zero_le _) (Nat.zero_le _) dX3_whatIsAgainst_103
          · refine lv_iconst (v := 3) hx hb dX3_whatIsAgainst_80 (by decide) ?_
            have HE : X_whatIsAgainst Z S jv = 3 := by exact (if_neg c1).trans ((if_neg c2).trans ((if_neg c3).trans ((if_pos c4).trans ((if_neg c18)))))
            exact rt_i hx hb hr hlocks hI hA hQ ⟨by rw [HE], rfl⟩ (Nat.zero_le _) (Nat.zero_le _) dX3_whatIsAgainst_81
      · refine lv_aload_n hx hb dX3_whatIsAgainst_35 rfl (lv_at hl 2 rfl) ?_
        refine gX3_36 (i := 0) hx hb hts hown hK hI (by decide) dX3_whatIsAgainst_36 ?_
        refine lv_if_ge (tgt := 58) hx hb dX3_whatIsAgainst_39 (by decide) (fun c32 => ?_) (fun c32 => ?_)
        · refine lv_aload_n hx hb dX3_whatIsAgainst_58 rfl (lv_at hl 3 rfl) ?_
          refine cVv (rest := []) hx hb hml hts hown hK hE hI (cX_weight G Z S jv hjv hC) kX3_139 ⟨Nat.le_of_ble_eq_true rfl, Nat.le_of_ble_eq_true rfl⟩ rfl rfl (kk := 2) (ii := jv) (xW2 hjv) rfl rfl hl.1 rfl (Nat.le_of_ble_eq_true rfl) dX3_whatIsAgainst_59 ⟨Nat.zero_le _, Nat.zero_le _⟩ (fun H locs hI => ?_)
          refine lv_istore (lv' := [(4, .int (X_weight Z S jv)), (3, .int ((S.1 0 0 6) - (S.1 0 0 6) / 1440 * 1440)), (2, .ref (Z.A 1 (X_pieceAhead Z S jv - 1))), (0, .ref (Z.A 0 0)), (1, .ref (Z.A 2 jv))]) hx hb dX3_whatIsAgainst_62 hl (by decide) rfl (fun ls hl => ?_)
          refine lv_aload_n hx hb dX3_whatIsAgainst_64 rfl (lv_at hl 2 rfl) ?_
          refine gX3_101 (i := X_pieceAhead Z S jv - 1) hx hb hts hown hK hI (pA_lt hWZ c1) dX3_whatIsAgainst_65 ?_
          refine lv_iconst (v := 1) hx hb dX3_whatIsAgainst_68 (by decide) ?_
          refine lv_icmp_ne (tgt := 82) hx hb dX3_whatIsAgainst_69 (by decide) (fun c33 => ?_) (fun c33 => ?_)
          · refine lv_aload_n hx hb dX3_whatIsAgainst_82 rfl (lv_at hl 3 rfl) ?_
            refine gX3_32 (i := 0) hx hb hts hown hK hI (by decide) dX3_whatIsAgainst_83 ?_
            refine lv_aload_n hx hb dX3_whatIsAgainst_86 rfl (lv_at hl 2 rfl) ?_
            refine lv_aload_n hx hb dX3_whatIsAgainst_87 rfl (lv_at hl 4 rfl) ?_
            refine gX3_144 (i := jv) hx hb hts hown hK hI hjv dX3_whatIsAgainst_88 ?_
            refine cVv (rest := [.int (S.1 0 0 6)]) hx hb hml hts hown hK hE hI (cX_lastComing G Z S (X_pieceAhead Z S jv - 1) (S.1 2 jv 5) (pA_lt hWZ c1)) kX3_286 ⟨Nat.le_of_ble_eq_true rfl, Nat.le_of_ble_eq_true rfl⟩ rfl rfl (kk := 1) (ii := X_pieceAhead Z S jv - 1) (xW1 (pA_lt hWZ c1)) rfl rfl hl.1 rfl (Nat.le_of_ble_eq_true rfl) dX3_whatIsAgainst_91 ⟨Nat.zero_le _, Nat.zero_le _⟩ (fun H locs hI => ?_)
            refine lv_isub hx hb dX3_whatIsAgainst_94 ?_
            refine lv_aload_n hx hb dX3_whatIsAgainst_95 rfl (lv_at hl 3 rfl) ?_
            refine gX3_39 (i := 0) hx hb hts hown hK hI (by decide) dX3_whatIsAgainst_96 ?_
            refine lv_icmp_ge (tgt := 104) hx hb dX3_whatIsAgainst_99 (by decide) (fun c34 => ?_) (fun c34 => ?_)
            · refine lv_aload_n hx hb dX3_whatIsAgainst_104 rfl (lv_at hl 2 rfl) ?_
              refine gX3_289 (i := X_pieceAhead Z S jv - 1) hx hb hts hown hK hI (pA_lt hWZ c1) dX3_whatIsAgainst_105 ?_
              refine lv_if_eq (tgt := 132) hx hb dX3_whatIsAgainst_108 (by decide) (fun c35 => ?_) (fun c35 => ?_)
              · refine lv_aload_n hx hb dX3_whatIsAgainst_132 rfl (lv_at hl 2 rfl) ?_
                refine gX3_277 (i := X_pieceAhead Z S jv - 1) hx hb hts hown hK hI (pA_lt hWZ c1) dX3_whatIsAgainst_133 ?_
                refine lv_iload hx hb dX3_whatIsAgainst_136 (lv_at hl 0 rfl) ?_
                refine lv_iadd hx hb dX3_whatIsAgainst_138 ?_
                refine lv_aload_n hx hb dX3_whatIsAgainst_139 rfl (lv_at hl 2 rfl) ?_
                refine lv_iconst (v := 1) hx hb dX3_whatIsAgainst_140 (by decide) ?_
                refine cVv (rest := [.int ((S.1 1 (X_pieceAhead Z S jv - 1) 13) + (X_weight Z S jv))]) hx hb hml hts hown hK hE hI (cX_bearsAs G Z S (X_pieceAhead Z S jv - 1) 1 (pA_lt hWZ c1)) kX3_183 ⟨Nat.le_of_ble_eq_true rfl, Nat.le_of_ble_eq_true rfl⟩ rfl rfl (kk := 1) (ii := X_pieceAhead Z S jv - 1) (xW1 (pA_lt hWZ c1)) rfl rfl hl.1 rfl (Nat.le_of_ble_eq_true rfl) dX3_whatIsAgainst_141 ⟨Nat.zero_le _, Nat.zero_le _⟩ (fun H locs hI => ?_)
                have hJ37 : ∀ (x36 : Int32), (x36 = if ((S.1 1 (X_pieceAhead Z S jv - 1) 13) + (X_weight Z S jv)) ≤ (X_bearsAs Z S (X_pieceAhead Z S jv - 1) 1) then 0 else 6) → W p G.1 e ({ frames := 4, cells := 0, slots := 0, locals := 86 }) s m args below meth c H locs 0 0 Q (F0 m 153 ls [.int x36]) := by
                  intro x36 ex36
                  have HE : X_whatIsAgainst Z S jv = x36 := by subst ex36; exact (if_neg c1).trans ((if_neg c2).trans ((if_pos c3).trans ((if_pos c32).trans ((if_neg c33).trans ((if_pos c34).trans ((if_pos c35)))))))
                  exact rt_i hx hb hr hlocks hI hA hQ ⟨by rw [HE], rfl⟩ (Nat.zero_le _) (Nat.zero_le _) dX3_whatIsAgainst_153
                refine lv_icmp_le (tgt := 152) hx hb dX3_whatIsAgainst_144 (by decide) (fun c38 => ?_) (fun c38 => ?_)
                · refine lv_iconst (v := 0) hx hb dX3_whatIsAgainst_152 (by decide) ?_
                  exact hJ37 0 (by exact (if_pos c38).symm)
                · refine lv_bipush (v := 6) hx hb dX3_whatIsAgainst_147 (by decide) ?_
                  refine lv_goto (tgt := 153) hx hb dX3_whatIsAgainst_149 (by decide) ?_
                  exact hJ37 6 (by exact (if_neg c38).symm)
              · refine lv_aload_n hx hb dX3_whatIsAgainst_111 rfl (lv_at hl 2 rfl) ?_
                refine lv_aload_n hx hb dX3_whatIsAgainst_112 rfl (lv_at hl 4 rfl) ?_
                refine gX3_144 (i := jv) hx hb hts hown hK hI hjv dX3_whatIsAgainst_113 ?_
                have hJ39 : W p G.1 e ({ frames := 4, cells := 0, slots := 0, locals := 86 }) s m args below meth c H locs 0 0 Q (F0 m 124 ls [.int (bI ((S.1 2 jv 5) = 0)), .ref (Z.A 1 (X_pieceAhead Z S jv - 1))]) := by
                  refine cVv (rest := []) hx hb hml hts hown hK hE hI (cX_countOn G Z S (X_pieceAhead Z S jv - 1) (bI ((S.1 2 jv 5) = 0)) (pA_lt hWZ c1)) kX3_292 ⟨Nat.le_of_ble_eq_true rfl, Nat.le_of_ble_eq_true rfl⟩ rfl rfl (kk := 1) (ii := X_pieceAhead Z S jv - 1) (xW1 (pA_lt hWZ c1)) rfl rfl hl.1 rfl (Nat.le_of_ble_eq_true rfl) dX3_whatIsAgainst_124 ⟨Nat.zero_le _, Nat.zero_le _⟩ (fun H locs hI => ?_)
                  refine lv_if_le (tgt := 132) hx hb dX3_whatIsAgainst_127 (by decide) (fun c40 => ?_) (fun c40 => ?_)
                  · refine lv_aload_n hx hb dX3_whatIsAgainst_132 rfl (lv_at hl 2 rfl) ?_
                    refine gX3_277 (i := X_pieceAhead Z S jv - 1) hx hb hts hown hK hI (pA_lt hWZ c1) dX3_whatIsAgainst_133 ?_
                    refine lv_iload hx hb dX3_whatIsAgainst_136 (lv_at hl 0 rfl) ?_
                    refine lv_iadd hx hb dX3_whatIsAgainst_138 ?_
                    refine lv_aload_n hx hb dX3_whatIsAgainst_139 rfl (lv_at hl 2 rfl) ?_
                    refine lv_iconst (v := 1) hx hb dX3_whatIsAgainst_140 (by decide) ?_
                    refine cVv (rest := [.int ((S.1 1 (X_pieceAhead Z S jv - 1) 13) + (X_weight Z S jv))]) hx hb hml hts hown hK hE hI (cX_bearsAs G Z S (X_pieceAhead Z S jv - 1) 1 (pA_lt hWZ c1)) kX3_183 ⟨Nat.le_of_ble_eq_true rfl, Nat.le_of_ble_eq_true rfl⟩ rfl rfl (kk := 1) (ii := X_pieceAhead Z S jv - 1) (xW1 (pA_lt hWZ c1)) rfl rfl hl.1 rfl (Nat.le_of_ble_eq_true rfl) dX3_whatIsAgainst_141 ⟨Nat.zero_le _, Nat.zero_le _⟩ (fun H locs hI => ?_)
                    have hJ42 : ∀ (x41 : Int32), (x41 = if ((S.1 1 (X_pieceAhead Z S jv - 1) 13) + (X_weight Z S jv)) ≤ (X_bearsAs Z S (X_pieceAhead Z S jv - 1) 1) then 0 else 6) → W p G.1 e ({ frames := 4, cells := 0, slots := 0, locals := 86 }) s m args below meth c H locs 0 0 Q (F0 m 153 ls [.int x41]) := by
                      intro x41 ex41
                      have HE : X_whatIsAgainst Z S jv = x41 := by subst ex41; exact (if_neg c1).trans ((if_neg c2).trans ((if_pos c3).trans ((if_pos c32).trans ((if_neg c33).trans ((if_pos c34).trans ((if_neg c35).trans ((if_pos c40))))))))
                      exact rt_i hx hb hr hlocks hI hA hQ ⟨by rw [HE], rfl⟩ (Nat.zero_le _) (Nat.zero_le _) dX3_whatIsAgainst_153
                    refine lv_icmp_le (tgt := 152) hx hb dX3_whatIsAgainst_144 (by decide) (fun c43 => ?_) (fun c43 => ?_)
                    · refine lv_iconst (v := 0) hx hb dX3_whatIsAgainst_152 (by decide) ?_
                      exact hJ42 0 (by exact (if_pos c43).symm)
                    · refine lv_bipush (v := 6) hx hb dX3_whatIsAgainst_147 (by decide) ?_
                      refine lv_goto (tgt := 153) hx hb dX3_whatIsAgainst_149 (by decide) ?_
                      exact hJ42 6 (by exact (if_neg c43).symm)
                  · refine lv_iconst (v := 5) hx hb dX3_whatIsAgainst_130 (by decide) ?_
                    have HE : X_whatIsAgainst Z S jv = 5 := by exact (if_neg c1).trans ((if_neg c2).trans ((if_pos c3).trans ((if_pos c32).trans ((if_neg c33).trans ((if_pos c34).trans ((if_neg c35).trans ((if_neg c40))))))))
                    exact rt_i hx hb hr hlocks hI hA hQ ⟨by rw [HE], rfl⟩ (Nat.zero_le _) (Nat.zero_le _) dX3_whatIsAgainst_131
                refine lv_if_ne (tgt := 123) hx hb dX3_whatIsAgainst_116 (by decide) (fun c44 => ?_) (fun c44 => ?_)
                · refine lv_iconst (v := 0) hx hb dX3_whatIsAgainst_123 (by decide) ?_
                  have eb45 : (0 : Int32) = bI ((S.1 2 jv 5) = 0) := (bI_f c44).symm
                  rw [eb45]
                  exact hJ39
                · refine lv_iconst (v := 1) hx hb dX3_whatIsAgainst_119 (by decide) ?_
                  refine lv_goto (tgt := 124) hx hb dX3_whatIsAgainst_120 (by decide) ?_
                  have eb46 : (1 : Int32) = bI ((S.1 2 jv 5) = 0) := (bI_t c44).symm
                  rw [eb46]
                  exact hJ39
            · refine lv_iconst (v := 4) hx hb dX3_whatIsAgainst_102 (by decide) ?_
              have HE : X_whatIsAgainst Z S jv = 4 := by exact (if_neg c1).trans ((if_neg c2).trans ((if_pos c3).trans ((if_pos c32).trans ((if_neg c33).trans ((if_neg c34))))))
              exact rt_i hx hb hr hlocks hI hA hQ ⟨by rw [HE], rfl⟩ (Nat.zero_le _) (Nat.zero_le _) dX3_whatIsAgainst_103
          · refine lv_iload hx hb dX3_whatIsAgainst_72 (lv_at hl 0 rfl) ?_
            refine lv_sipush (v := 5000) hx hb dX3_whatIsAgainst_74 (by decide) ?_
            refine lv_icmp_le (tgt := 82) hx hb dX3_whatIsAgainst_77 (by decide) (fun c47 => ?_) (fun c47 => ?_)
            · refine lv_aload_n hx hb dX3_whatIsAgainst_82 rfl (lv_at hl 3 rfl) ?_
              refine gX3_32 (i := 0) hx hb hts hown hK hI (by decide) dX3_whatIsAgainst_83 ?_
              refine lv_aload_n hx hb dX3_whatIsAgainst_86 rfl (lv_at hl 2 rfl) ?_
              refine lv_aload_n hx hb dX3_whatIsAgainst_87 rfl (lv_at hl 4 rfl) ?_
              refine gX3_144 (i := jv) hx hb hts hown hK hI hjv dX3_whatIsAgainst_88 ?_
              refine cVv (rest := [.int (S.1 0 0 6)]) hx hb hml hts hown hK hE hI (cX_lastComing G Z S (X_pieceAhead Z S jv - 1) (S.1 2 jv 5) (pA_lt hWZ c1)) kX3_286 ⟨Nat.le_of_ble_eq_true rfl, Nat.le_of_ble_eq_true rfl⟩ rfl rfl (kk := 1) (ii := X_pieceAhead Z S jv - 1) (xW1 (pA_lt hWZ c1)) rfl rfl hl.1 rfl (Nat.le_of_ble_eq_true rfl) dX3_whatIsAgainst_91 ⟨Nat.zero_le _, Nat.zero_le _⟩ (fun H locs hI => ?_)
              refine lv_isub hx hb dX3_whatIsAgainst_94 ?_
              refine lv_aload_n hx hb dX3_whatIsAgainst_95 rfl (lv_at hl 3 rfl) ?_
              refine gX3_39 (i := 0) hx hb hts hown hK hI (by decide) dX3_whatIsAgainst_96 ?_
              refine lv_icmp_ge (tgt := 104) hx hb dX3_whatIsAgainst_99 (by decide) (fun c48 => ?_) (fun c48 => ?_)
              · refine lv_aload_n hx hb dX3_whatIsAgainst_104 rfl (lv_at hl 2 rfl) ?_
                refine gX3_289 (i := X_pieceAhead Z S jv - 1) hx hb hts hown hK hI (pA_lt hWZ c1) dX3_whatIsAgainst_105 ?_
                refine lv_if_eq (tgt := 132) hx hb dX3_whatIsAgainst_108 (by decide) (fun c49 => ?_) (fun c49 => ?_)
                · refine lv_aload_n hx hb dX3_whatIsAgainst_132 rfl (lv_at hl 2 rfl) ?_
                  refine gX3_277 (i := X_pieceAhead Z S jv - 1) hx hb hts hown hK hI (pA_lt hWZ c1) dX3_whatIsAgainst_133 ?_
                  refine lv_iload hx hb dX3_whatIsAgainst_136 (lv_at hl 0 rfl) ?_
                  refine lv_iadd hx hb dX3_whatIsAgainst_138 ?_
                  refine lv_aload_n hx hb dX3_whatIsAgainst_139 rfl (lv_at hl 2 rfl) ?_
                  refine lv_iconst (v := 1) hx hb dX3_whatIsAgainst_140 (by decide) ?_
                  refine cVv (rest := [.int ((S.1 1 (X_pieceAhead Z S jv - 1) 13) + (X_weight Z S jv))]) hx hb hml hts hown hK hE hI (cX_bearsAs G Z S (X_pieceAhead Z S jv - 1) 1 (pA_lt hWZ c1)) kX3_183 ⟨Nat.le_of_ble_eq_true rfl, Nat.le_of_ble_eq_true rfl⟩ rfl rfl (kk := 1) (ii := X_pieceAhead Z S jv - 1) (xW1 (pA_lt hWZ c1)) rfl rfl hl.1 rfl (Nat.le_of_ble_eq_true rfl) dX3_whatIsAgainst_141 ⟨Nat.zero_le _, Nat.zero_le _⟩ (fun H locs hI => ?_)
                  have hJ51 : ∀ (x50 : Int32), (x50 = if ((S.1 1 (X_pieceAhead Z S jv - 1) 13) + (X_weight Z S jv)) ≤ (X_bearsAs Z S (X_pieceAhead Z S jv - 1) 1) then 0 else 6) → W p G.1 e ({ frames := 4, cells := 0, slots := 0, locals := 86 }) s m args below meth c H locs 0 0 Q (F0 m 153 ls [.int x50]) := by
                    intro x50 ex50
                    have HE : X_whatIsAgainst Z S jv = x50 := by subst ex50; exact (if_neg c1).trans ((if_neg c2).trans ((if_pos c3).trans ((if_pos c32).trans ((if_pos c33).trans ((if_pos c47).trans ((if_pos c48).trans ((if_pos c49))))))))
                    exact rt_i hx hb hr hlocks hI hA hQ ⟨by rw [HE], rfl⟩ (Nat.zero_le _) (Nat.zero_le _) dX3_whatIsAgainst_153
                  refine lv_icmp_le (tgt := 152) hx hb dX3_whatIsAgainst_144 (by decide) (fun c52 => ?_) (fun c52 => ?_)
                  · refine lv_iconst (v := 0) hx hb dX3_whatIsAgainst_152 (by decide) ?_
                    exact hJ51 0 (by exact (if_pos c52).symm)
                  · refine lv_bipush (v := 6) hx hb dX3_whatIsAgainst_147 (by decide) ?_
                    refine lv_goto (tgt := 153) hx hb dX3_whatIsAgainst_149 (by decide) ?_
                    exact hJ51 6 (by exact (if_neg c52).symm)
                · refine lv_aload_n hx hb dX3_whatIsAgainst_111 rfl (lv_at hl 2 rfl) ?_
                  refine lv_aload_n hx hb dX3_whatIsAgainst_112 rfl (lv_at hl 4 rfl) ?_
                  refine gX3_144 (i := jv) hx hb hts hown hK hI hjv dX3_whatIsAgainst_113 ?_
                  have hJ53 : W p G.1 e ({ frames := 4, cells := 0, slots := 0, locals := 86 }) s m args below meth c H locs 0 0 Q (F0 m 124 ls [.int (bI ((S.1 2 jv 5) = 0)), .ref (Z.A 1 (X_pieceAhead Z S jv - 1))]) := by
                    refine cVv (rest := []) hx hb hml hts hown hK hE hI (cX_countOn G Z S (X_pieceAhead Z S jv - 1) (bI ((S.1 2 jv 5) = 0)) (pA_lt hWZ c1)) kX3_292 ⟨Nat.le_of_ble_eq_true rfl, Nat.le_of_ble_eq_true rfl⟩ rfl rfl (kk := 1) (ii := X_pieceAhead Z S jv - 1) (xW1 (pA_lt hWZ c1)) rfl rfl hl.1 rfl (Nat.le_of_ble_eq_true rfl) dX3_whatIsAgainst_124 ⟨Nat.zero_le _, Nat.zero_le _⟩ (fun H locs hI => ?_)
                    refine lv_if_le (tgt := 132) hx hb dX3_whatIsAgainst_127 (by decide) (fun c54 => ?_) (fun c54 => ?_)
                    · refine lv_aload_n hx hb dX3_whatIsAgainst_132 rfl (lv_at hl 2 rfl) ?_
                      refine gX3_277 (i := X_pieceAhead Z S jv - 1) hx hb hts hown hK hI (pA_lt hWZ c1) dX3_whatIsAgainst_133 ?_
                      refine lv_iload hx hb dX3_whatIsAgainst_136 (lv_at hl 0 rfl) ?_
                      refine lv_iadd hx hb dX3_whatIsAgainst_138 ?_
                      refine lv_aload_n hx hb dX3_whatIsAgainst_139 rfl (lv_at hl 2 rfl) ?_
                      refine lv_iconst (v := 1) hx hb dX3_whatIsAgainst_140 (by decide) ?_
                      refine cVv (rest := [.int ((S.1 1 (X_pieceAhead Z S jv - 1) 13) + (X_weight Z S jv))]) hx hb hml hts hown hK hE hI (cX_bearsAs G Z S (X_pieceAhead Z S jv - 1) 1 (pA_lt hWZ c1)) kX3_183 ⟨Nat.le_of_ble_eq_true rfl, Nat.le_of_ble_eq_true rfl⟩ rfl rfl (kk := 1) (ii := X_pieceAhead Z S jv - 1) (xW1 (pA_lt hWZ c1)) rfl rfl hl.1 rfl (Nat.le_of_ble_eq_true rfl) dX3_whatIsAgainst_141 ⟨Nat.zero_le _, Nat.zero_le _⟩ (fun H locs hI => ?_)
                      have hJ56 : ∀ (x55 : Int32), (x55 = if ((S.1 1 (X_pieceAhead Z S jv - 1) 13) + (X_weight Z S jv)) ≤ (X_bearsAs Z S (X_pieceAhead Z S jv - 1) 1) then 0 else 6) → W p G.1 e ({ frames := 4, cells := 0, slots := 0, locals := 86 }) s m args below meth c H locs 0 0 Q (F0 m 153 ls [.int x55]) := by
                        intro x55 ex55
                        have HE : X_whatIsAgainst Z S jv = x55 := by subst ex55; exact (if_neg c1).trans ((if_neg c2).trans ((if_pos c3).trans ((if_pos c32).trans ((if_pos c33).trans ((if_pos c47).trans ((if_pos c48).trans ((if_neg c49).trans ((if_pos c54)))))))))
                        exact rt_i hx hb hr hlocks hI hA hQ ⟨by rw [HE], rfl⟩ (Nat.zero_le _) (Nat.zero_le _) dX3_whatIsAgainst_153
                      refine lv_icmp_le (tgt := 152) hx hb dX3_whatIsAgainst_144 (by decide) (fun c57 => ?_) (fun c57 => ?_)
                      · refine lv_iconst (v := 0) hx hb dX3_whatIsAgainst_152 (by decide) ?_
                        exact hJ56 0 (by exact (if_pos c57).symm)
                      · refine lv_bipush (v := 6) hx hb dX3_whatIsAgainst_147 (by decide) ?_
                        refine lv_goto (tgt := 153) hx hb dX3_whatIsAgainst_149 (by decide) ?_
                        exact hJ56 6 (by exact (if_neg c57).symm)
                    · refine lv_iconst (v := 5) hx hb dX3_whatIsAgainst_130 (by decide) ?_
                      have HE : X_whatIsAgainst Z S jv = 5 := by exact (if_neg c1).trans ((if_neg c2).trans ((if_pos c3).trans ((if_pos c32).trans ((if_pos c33).trans ((if_pos c47).trans ((if_pos c48).trans ((if_neg c49).trans ((if_neg c54)))))))))
                      exact rt_i hx hb hr hlocks hI hA hQ ⟨by rw [HE], rfl⟩ (Nat.zero_le _) (Nat.zero_le _) dX3_whatIsAgainst_131
                  refine lv_if_ne (tgt := 123) hx hb dX3_whatIsAgainst_116 (by decide) (fun c58 => ?_) (fun c58 => ?_)
                  · refine lv_iconst (v := 0) hx hb dX3_whatIsAgainst_123 (by decide) ?_
                    have eb59 : (0 : Int32) = bI ((S.1 2 jv 5) = 0) := (bI_f c58).symm
                    rw [eb59]
                    exact hJ53
                  · refine lv_iconst (v := 1) hx hb dX3_whatIsAgainst_119 (by decide) ?_
                    refine lv_goto (tgt := 124) hx hb dX3_whatIsAgainst_120 (by decide) ?_
                    have eb60 : (1 : Int32) = bI ((S.1 2 jv 5) = 0) := (bI_t c58).symm
                    rw [eb60]
                    exact hJ53
              · refine lv_iconst (v := 4) hx hb dX3_whatIsAgainst_102 (by decide) ?_
                have HE : X_whatIsAgainst Z S jv = 4 := by exact (if_neg c1).trans ((if_neg c2).trans ((if_pos c3).trans ((if_pos c32).trans ((if_pos c33).trans ((if_pos c47).trans ((if_neg c48)))))))
                exact rt_i hx hb hr hlocks hI hA hQ ⟨by rw [HE], rfl⟩ (Nat.zero_le _) (Nat.zero_le _) dX3_whatIsAgainst_103
            · refine lv_iconst (v := 3) hx hb dX3_whatIsAgainst_80 (by decide) ?_
              have HE : X_whatIsAgainst Z S jv = 3 := by exact (if_neg c1).trans ((if_neg c2).trans ((if_pos c3).trans ((if_pos c32).trans ((if_pos c33).trans ((if_neg c47))))))
              exact rt_i hx hb hr hlocks hI hA hQ ⟨by rw [HE], rfl⟩ (Nat.zero_le _) (Nat.zero_le _) dX3_whatIsAgainst_81
        · refine lv_iload_n hx hb dX3_whatIsAgainst_42 rfl (lv_at hl 0 rfl) ?_
          refine lv_sipush (v := 480) hx hb dX3_whatIsAgainst_43 (by decide) ?_
          refine lv_icmp_lt (tgt := 58) hx hb dX3_whatIsAgainst_46 (by decide) (fun c61 => ?_) (fun c61 => ?_)
          · refine lv_aload_n hx hb dX3_whatIsAgainst_58 rfl (lv_at hl 3 rfl) ?_
            refine cVv (rest := []) hx hb hml hts hown hK hE hI (cX_weight G Z S jv hjv hC) kX3_139 ⟨Nat.le_of_ble_eq_true rfl, Nat.le_of_ble_eq_true rfl⟩ rfl rfl (kk := 2) (ii := jv) (xW2 hjv) rfl rfl hl.1 rfl (Nat.le_of_ble_eq_true rfl) dX3_whatIsAgainst_59 ⟨Nat.zero_le _, Nat.zero_le _⟩ (fun H locs hI => ?_)
            refine lv_istore (lv' := [(4, .int (X_weight Z S jv)), (3, .int ((S.1 0 0 6) - (S.1 0 0 6) / 1440 * 1440)), (2, .ref (Z.A 1 (X_pieceAhead Z S jv - 1))), (0, .ref (Z.A 0 0)), (1, .ref (Z.A 2 jv))]) hx hb dX3_whatIsAgainst_62 hl (by decide) rfl (fun ls hl => ?_)
            refine lv_aload_n hx hb dX3_whatIsAgainst_64 rfl (lv_at hl 2 rfl) ?_
            refine gX3_101 (i := X_pieceAhead Z S jv - 1) hx hb hts hown hK hI (pA_lt hWZ c1) dX3_whatIsAgainst_65 ?_
            refine lv_iconst (v := 1) hx hb dX3_whatIsAgainst_68 (by decide) ?_
            refine lv_icmp_ne (tgt := 82) hx hb dX3_whatIsAgainst_69 (by decide) (fun c62 => ?_) (fun c62 => ?_)
            · refine lv_aload_n hx hb dX3_whatIsAgainst_82 rfl (lv_at hl 3 rfl) ?_
              refine gX3_32 (i := 0) hx hb hts hown hK hI (by decide) dX3_whatIsAgainst_83 ?_
              refine lv_aload_n hx hb dX3_whatIsAgainst_86 rfl (lv_at hl 2 rfl) ?_
              refine lv_aload_n hx hb dX3_whatIsAgainst_87 rfl (lv_at hl 4 rfl) ?_
              refine gX3_144 (i := jv) hx hb hts hown hK hI hjv dX3_whatIsAgainst_88 ?_
              refine cVv (rest := [.int (S.1 0 0 6)]) hx hb hml hts hown hK hE hI (cX_lastComing G Z S (X_pieceAhead Z S jv - 1) (S.1 2 jv 5) (pA_lt hWZ c1)) kX3_286 ⟨Nat.le_of_ble_eq_true rfl, Nat.le_of_ble_eq_true rfl⟩ rfl rfl (kk := 1) (ii := X_pieceAhead Z S jv - 1) (xW1 (pA_lt hWZ c1)) rfl rfl hl.1 rfl (Nat.le_of_ble_eq_true rfl) dX3_whatIsAgainst_91 ⟨Nat.zero_le _, Nat.zero_le _⟩ (fun H locs hI => ?_)
              refine lv_isub hx hb dX3_whatIsAgainst_94 ?_
              refine lv_aload_n hx hb dX3_whatIsAgainst_95 rfl (lv_at hl 3 rfl) ?_
              refine gX3_39 (i := 0) hx hb hts hown hK hI (by decide) dX3_whatIsAgainst_96 ?_
              refine lv_icmp_ge (tgt := 104) hx hb dX3_whatIsAgainst_99 (by decide) (fun c63 => ?_) (fun c63 => ?_)
              · refine lv_aload_n hx hb dX3_whatIsAgainst_104 rfl (lv_at hl 2 rfl) ?_
                refine gX3_289 (i := X_pieceAhead Z S jv - 1) hx hb hts hown hK hI (pA_lt hWZ c1) dX3_whatIsAgainst_105 ?_
                refine lv_if_eq (tgt := 132) hx hb dX3_whatIsAgainst_108 (by decide) (fun c64 => ?_) (fun c64 => ?_)
                · refine lv_aload_n hx hb dX3_whatIsAgainst_132 rfl (lv_at hl 2 rfl) ?_
                  refine gX3_277 (i := X_pieceAhead Z S jv - 1) hx hb hts hown hK hI (pA_lt hWZ c1) dX3_whatIsAgainst_133 ?_
                  refine lv_iload hx hb dX3_whatIsAgainst_136 (lv_at hl 0 rfl) ?_
                  refine lv_iadd hx hb dX3_whatIsAgainst_138 ?_
                  refine lv_aload_n hx hb dX3_whatIsAgainst_139 rfl (lv_at hl 2 rfl) ?_
                  refine lv_iconst (v := 1) hx hb dX3_whatIsAgainst_140 (by decide) ?_
                  refine cVv (rest := [.int ((S.1 1 (X_pieceAhead Z S jv - 1) 13) + (X_weight Z S jv))]) hx hb hml hts hown hK hE hI (cX_bearsAs G Z S (X_pieceAhead Z S jv - 1) 1 (pA_lt hWZ c1)) kX3_183 ⟨Nat.le_of_ble_eq_true rfl, Nat.le_of_ble_eq_true rfl⟩ rfl rfl (kk := 1) (ii := X_pieceAhead Z S jv - 1) (xW1 (pA_lt hWZ c1)) rfl rfl hl.1 rfl (Nat.le_of_ble_eq_true rfl) dX3_whatIsAgainst_141 ⟨Nat.zero_le _, Nat.zero_le _⟩ (fun H locs hI => ?_)
                  have hJ66 : ∀ (x65 : Int32), (x65 = if ((S.1 1 (X_pieceAhead Z S jv - 1) 13) + (X_weight Z S jv)) ≤ (X_bearsAs Z S (X_pieceAhead Z S jv - 1) 1) then 0 else 6) → W p G.1 e ({ frames := 4, cells := 0, slots := 0, locals := 86 }) s m args below meth c H locs 0 0 Q (F0 m 153 ls [.int x65]) := by
                    intro x65 ex65
                    have HE : X_whatIsAgainst Z S jv = x65 := by subst ex65; exact (if_neg c1).trans ((if_neg c2).trans ((if_pos c3).trans ((if_neg c32).trans ((if_pos c61).trans ((if_neg c62).trans ((if_pos c63).trans ((if_pos c64))))))))
                    exact rt_i hx hb hr hlocks hI hA hQ ⟨by rw [HE], rfl⟩ (Nat.zero_le _) (Nat.zero_le _) dX3_whatIsAgainst_153
                  refine lv_icmp_le (tgt := 152) hx hb dX3_whatIsAgainst_144 (by decide) (fun c67 => ?_) (fun c67 => ?_)
                  · refine lv_iconst (v := 0) hx hb dX3_whatIsAgainst_152 (by decide) ?_
                    exact hJ66 0 (by exact (if_pos c67).symm)
                  · refine lv_bipush (v := 6) hx hb dX3_whatIsAgainst_147 (by decide) ?_
                    refine lv_goto (tgt := 153) hx hb dX3_whatIsAgainst_149 (by decide) ?_
                    exact hJ66 6 (by exact (if_neg c67).symm)
                · refine lv_aload_n hx hb dX3_whatIsAgainst_111 rfl (lv_at hl 2 rfl) ?_
                  refine lv_aload_n hx hb dX3_whatIsAgainst_112 rfl (lv_at hl 4 rfl) ?_
                  refine gX3_144 (i := jv) hx hb hts hown hK hI hjv dX3_whatIsAgainst_113 ?_
                  have hJ68 : W p G.1 e ({ frames := 4, cells := 0, slots := 0, locals := 86 }) s m args below meth c H locs 0 0 Q (F0 m 124 ls [.int (bI ((S.1 2 jv 5) = 0)), .ref (Z.A 1 (X_pieceAhead Z S jv - 1))]) := by
                    refine cVv (rest := []) hx hb hml hts hown hK hE hI (cX_countOn G Z S (X_pieceAhead Z S jv - 1) (bI ((S.1 2 jv 5) = 0)) (pA_lt hWZ c1)) kX3_292 ⟨Nat.le_of_ble_eq_true rfl, Nat.le_of_ble_eq_true rfl⟩ rfl rfl (kk := 1) (ii := X_pieceAhead Z S jv - 1) (xW1 (pA_lt hWZ c1)) rfl rfl hl.1 rfl (Nat.le_of_ble_eq_true rfl) dX3_whatIsAgainst_124 ⟨Nat.zero_le _, Nat.zero_le _⟩ (fun H locs hI => ?_)
                    refine lv_if_le (tgt := 132) hx hb dX3_whatIsAgainst_127 (by decide) (fun c69 => ?_) (fun c69 => ?_)
                    · refine lv_aload_n hx hb dX3_whatIsAgainst_132 rfl (lv_at hl 2 rfl) ?_
                      refine gX3_277 (i := X_pieceAhead Z S jv - 1) hx hb hts hown hK hI (pA_lt hWZ c1) dX3_whatIsAgainst_133 ?_
                      refine lv_iload hx hb dX3_whatIsAgainst_136 (lv_at hl 0 rfl) ?_
                      refine lv_iadd hx hb dX3_whatIsAgainst_138 ?_
                      refine lv_aload_n hx hb dX3_whatIsAgainst_139 rfl (lv_at hl 2 rfl) ?_
                      refine lv_iconst (v := 1) hx hb dX3_whatIsAgainst_140 (by decide) ?_
                      refine cVv (rest := [.int ((S.1 1 (X_pieceAhead Z S jv - 1) 13) + (X_weight Z S jv))]) hx hb hml hts hown hK hE hI (cX_bearsAs G Z S (X_pieceAhead Z S jv - 1) 1 (pA_lt hWZ c1)) kX3_183 ⟨Nat.le_of_ble_eq_true rfl, Nat.le_of_ble_eq_true rfl⟩ rfl rfl (kk := 1) (ii := X_pieceAhead Z S jv - 1) (xW1 (pA_lt hWZ c1)) rfl rfl hl.1 rfl (Nat.le_of_ble_eq_true rfl) dX3_whatIsAgainst_141 ⟨Nat.zero_le _, Nat.zero_le _⟩ (fun H locs hI => ?_)
                      have hJ71 : ∀ (x70 : Int32), (x70 = if ((S.1 1 (X_pieceAhead Z S jv - 1) 13) + (X_weight Z S jv)) ≤ (X_bearsAs Z S (X_pieceAhead Z S jv - 1) 1) then 0 else 6) → W p G.1 e ({ frames := 4, cells := 0, slots := 0, locals := 86 }) s m args below meth c H locs 0 0 Q (F0 m 153 ls [.int x70]) := by
                        intro x70 ex70
                        have HE : X_whatIsAgainst Z S jv = x70 := by subst ex70; exact (if_neg c1).trans ((if_neg c2).trans ((if_pos c3).trans ((if_neg c32).trans ((if_pos c61).trans ((if_neg c62).trans ((if_pos c63).trans ((if_neg c64).trans ((if_pos c69)))))))))
                        exact rt_i hx hb hr hlocks hI hA hQ ⟨by rw [HE], rfl⟩ (Nat.zero_le _) (Nat.zero_le _) dX3_whatIsAgainst_153
                      refine lv_icmp_le (tgt := 152) hx hb dX3_whatIsAgainst_144 (by decide) (fun c72 => ?_) (fun c72 => ?_)
                      · refine lv_iconst (v := 0) hx hb dX3_whatIsAgainst_152 (by decide) ?_
                        exact hJ71 0 (by exact (if_pos c72).symm)
                      · refine lv_bipush (v := 6) hx hb dX3_whatIsAgainst_147 (by decide) ?_
                        refine lv_goto (tgt := 153) hx hb dX3_whatIsAgainst_149 (by decide) ?_
                        exact hJ71 6 (by exact (if_neg c72).symm)
                    · refine lv_iconst (v := 5) hx hb dX3_whatIsAgainst_130 (by decide) ?_
                      have HE : X_whatIsAgainst Z S jv = 5 := by exact (if_neg c1).trans ((if_neg c2).trans ((if_pos c3).trans ((if_neg c32).trans ((if_pos c61).trans ((if_neg c62).trans ((if_pos c63).trans ((if_neg c64).trans ((if_neg c69)))))))))
                      exact rt_i hx hb hr hlocks hI hA hQ ⟨by rw [HE], rfl⟩ (Nat.zero_le _) (Nat.zero_le _) dX3_whatIsAgainst_131
                  refine lv_if_ne (tgt := 123) hx hb dX3_whatIsAgainst_116 (by decide) (fun c73 => ?_) (fun c73 => ?_)
                  · refine lv_iconst (v := 0) hx hb dX3_whatIsAgainst_123 (by decide) ?_
                    have eb74 : (0 : Int32) = bI ((S.1 2 jv 5) = 0) := (bI_f c73).symm
                    rw [eb74]
                    exact hJ68
                  · refine lv_iconst (v := 1) hx hb dX3_whatIsAgainst_119 (by decide) ?_
                    refine lv_goto (tgt := 124) hx hb dX3_whatIsAgainst_120 (by decide) ?_
                    have eb75 : (1 : Int32) = bI ((S.1 2 jv 5) = 0) := (bI_t c73).symm
                    rw [eb75]
                    exact hJ68
              · refine lv_iconst (v := 4) hx hb dX3_whatIsAgainst_102 (by decide) ?_
                have HE : X_whatIsAgainst Z S jv = 4 := by exact (if_neg c1).trans ((if_neg c2).trans ((if_pos c3).trans ((if_neg c32).trans ((if_pos c61).trans ((if_neg c62).trans ((if_neg c63)))))))
                exact rt_i hx hb hr hlocks hI hA hQ ⟨by rw [HE], rfl⟩ (Nat.zero_le _) (Nat.zero_le _) dX3_whatIsAgainst_103
            · refine lv_iload hx hb dX3_whatIsAgainst_72 (lv_at hl 0 rfl) ?_
              refine lv_sipush (v := 5000) hx hb dX3_whatIsAgainst_74 (by decide) ?_
              refine lv_icmp_le (tgt := 82) hx hb dX3_whatIsAgainst_77 (by decide) (fun c76 => ?_) (fun c76 => ?_)
              · refine lv_aload_n hx hb dX3_whatIsAgainst_82 rfl (lv_at hl 3 rfl) ?_
                refine gX3_32 (i := 0) hx hb hts hown hK hI (by decide) dX3_whatIsAgainst_83 ?_
                refine lv_aload_n hx hb dX3_whatIsAgainst_86 rfl (lv_at hl 2 rfl) ?_
                refine lv_aload_n hx hb dX3_whatIsAgainst_87 rfl (lv_at hl 4 rfl) ?_
                refine gX3_144 (i := jv) hx hb hts hown hK hI hjv dX3_whatIsAgainst_88 ?_
                refine cVv (rest := [.int (S.1 0 0 6)]) hx hb hml hts hown hK hE hI (cX_lastComing G Z S (X_pieceAhead Z S jv - 1) (S.1 2 jv 5) (pA_lt hWZ c1)) kX3_286 ⟨Nat.le_of_ble_eq_true rfl, Nat.le_of_ble_eq_true rfl⟩ rfl rfl (kk := 1) (ii := X_pieceAhead Z S jv - 1) (xW1 (pA_lt hWZ c1)) rfl rfl hl.1 rfl (Nat.le_of_ble_eq_true rfl) dX3_whatIsAgainst_91 ⟨Nat.zero_le _, Nat.zero_le _⟩ (fun H locs hI => ?_)
                refine lv_isub hx hb dX3_whatIsAgainst_94 ?_
                refine lv_aload_n hx hb dX3_whatIsAgainst_95 rfl (lv_at hl 3 rfl) ?_
                refine gX3_39 (i := 0) hx hb hts hown hK hI (by decide) dX3_whatIsAgainst_96 ?_
                refine lv_icmp_ge (tgt := 104) hx hb dX3_whatIsAgainst_99 (by decide) (fun c77 => ?_) (fun c77 => ?_)
                · refine lv_aload_n hx hb dX3_whatIsAgainst_104 rfl (lv_at hl 2 rfl) ?_
                  refine gX3_289 (i := X_pieceAhead Z S jv - 1) hx hb hts hown hK hI (pA_lt hWZ c1) dX3_whatIsAgainst_105 ?_
                  refine lv_if_eq (tgt := 132) hx hb dX3_whatIsAgainst_108 (by decide) (fun c78 => ?_) (fun c78 => ?_)
                  · refine lv_aload_n hx hb dX3_whatIsAgainst_132 rfl (lv_at hl 2 rfl) ?_
                    refine gX3_277 (i := X_pieceAhead Z S jv - 1) hx hb hts hown hK hI (pA_lt hWZ c1) dX3_whatIsAgainst_133 ?_
                    refine lv_iload hx hb dX3_whatIsAgainst_136 (lv_at hl 0 rfl) ?_
                    refine lv_iadd hx hb dX3_whatIsAgainst_138 ?_
                    refine lv_aload_n hx hb dX3_whatIsAgainst_139 rfl (lv_at hl 2 rfl) ?_
                    refine lv_iconst (v := 1) hx hb dX3_whatIsAgainst_140 (by decide) ?_
                    refine cVv (rest := [.int ((S.1 1 (X_pieceAhead Z S jv - 1) 13) + (X_weight Z S jv))]) hx hb hml hts hown hK hE hI (cX_bearsAs G Z S (X_pieceAhead Z S jv - 1) 1 (pA_lt hWZ c1)) kX3_183 ⟨Nat.le_of_ble_eq_true rfl, Nat.le_of_ble_eq_true rfl⟩ rfl rfl (kk := 1) (ii := X_pieceAhead Z S jv - 1) (xW1 (pA_lt hWZ c1)) rfl rfl hl.1 rfl (Nat.le_of_ble_eq_true rfl) dX3_whatIsAgainst_141 ⟨Nat.zero_le _, Nat.zero_le _⟩ (fun H locs hI => ?_)
                    have hJ80 : ∀ (x79 : Int32), (x79 = if ((S.1 1 (X_pieceAhead Z S jv - 1) 13) + (X_weight Z S jv)) ≤ (X_bearsAs Z S (X_pieceAhead Z S jv - 1) 1) then 0 else 6) → W p G.1 e ({ frames := 4, cells := 0, slots := 0, locals := 86 }) s m args below meth c H locs 0 0 Q (F0 m 153 ls [.int x79]) := by
                      intro x79 ex79
                      have HE : X_whatIsAgainst Z S jv = x79 := by subst ex79; exact (if_neg c1).trans ((if_neg c2).trans ((if_pos c3).trans ((if_neg c32).trans ((if_pos c61).trans ((if_pos c62).trans ((if_pos c76).trans ((if_pos c77).trans ((if_pos c78)))))))))
                      exact rt_i hx hb hr hlocks hI hA hQ ⟨by rw [HE], rfl⟩ (Nat.zero_le _) (Nat.zero_le _) dX3_whatIsAgainst_153
                    refine lv_icmp_le (tgt := 152) hx hb dX3_whatIsAgainst_144 (by decide) (fun c81 => ?_) (fun c81 => ?_)
                    · refine lv_iconst (v := 0) hx hb dX3_whatIsAgainst_152 (by decide) ?_
                      exact hJ80 0 (by exact (if_pos c81).symm)
                    · refine lv_bipush (v := 6) hx hb dX3_whatIsAgainst_147 (by decide) ?_
                      refine lv_goto (tgt := 153) hx hb dX3_whatIsAgainst_149 (by decide) ?_
                      exact hJ80 6 (by exact (if_neg c81).symm)
                  · refine lv_aload_n hx hb dX3_whatIsAgainst_111 rfl (lv_at hl 2 rfl) ?_
                    refine lv_aload_n hx hb dX3_whatIsAgainst_112 rfl (lv_at hl 4 rfl) ?_
                    refine gX3_144 (i := jv) hx hb hts hown hK hI hjv dX3_whatIsAgainst_113 ?_
                    have hJ82 : W p G.1 e ({ frames := 4, cells := 0, slots := 0, locals := 86 }) s m args below meth c H locs 0 0 Q (F0 m 124 ls [.int (bI ((S.1 2 jv 5) = 0)), .ref (Z.A 1 (X_pieceAhead Z S jv - 1))]) := by
                      refine cVv (rest := []) hx hb hml hts hown hK hE hI (cX_countOn G Z S (X_pieceAhead Z S jv - 1) (bI ((S.1 2 jv 5) = 0)) (pA_lt hWZ c1)) kX3_292 ⟨Nat.le_of_ble_eq_true rfl, Nat.le_of_ble_eq_true rfl⟩ rfl rfl (kk := 1) (ii := X_pieceAhead Z S jv - 1) (xW1 (pA_lt hWZ c1)) rfl rfl hl.1 rfl (Nat.le_of_ble_eq_true rfl) dX3_whatIsAgainst_124 ⟨Nat.zero_le _, Nat.zero_le _⟩ (fun H locs hI => ?_)
                      refine lv_if_le (tgt := 132) hx hb dX3_whatIsAgainst_127 (by decide) (fun c83 => ?_) (fun c83 => ?_)
                      · refine lv_aload_n hx hb dX3_whatIsAgainst_132 rfl (lv_at hl 2 rfl) ?_
                        refine gX3_277 (i := X_pieceAhead Z S jv - 1) hx hb hts hown hK hI (pA_lt hWZ c1) dX3_whatIsAgainst_133 ?_
                        refine lv_iload hx hb dX3_whatIsAgainst_136 (lv_at hl 0 rfl) ?_
                        refine lv_iadd hx hb dX3_whatIsAgainst_138 ?_
                        refine lv_aload_n hx hb dX3_whatIsAgainst_139 rfl (lv_at hl 2 rfl) ?_
                        refine lv_iconst (v := 1) hx hb dX3_whatIsAgainst_140 (by decide) ?_
                        refine cVv (rest := [.int ((S.1 1 (X_pieceAhead Z S jv - 1) 13) + (X_weight Z S jv))]) hx hb hml hts hown hK hE hI (cX_bearsAs G Z S (X_pieceAhead Z S jv - 1) 1 (pA_lt hWZ c1)) kX3_183 ⟨Nat.le_of_ble_eq_true rfl, Nat.le_of_ble_eq_true rfl⟩ rfl rfl (kk := 1) (ii := X_pieceAhead Z S jv - 1) (xW1 (pA_lt hWZ c1)) rfl rfl hl.1 rfl (Nat.le_of_ble_eq_true rfl) dX3_whatIsAgainst_141 ⟨Nat.zero_le _, Nat.zero_le _⟩ (fun H locs hI => ?_)
                        have hJ85 : ∀ (x84 : Int32), (x84 = if ((S.1 1 (X_pieceAhead Z S jv - 1) 13) + (X_weight Z S jv)) ≤ (X_bearsAs Z S (X_pieceAhead Z S jv - 1) 1) then 0 else 6) → W p G.1 e ({ frames := 4, cells := 0, slots := 0, locals := 86 }) s m args below meth c H locs 0 0 Q (F0 m 153 ls [.int x84]) := by
                          intro x84 ex84
                          have HE : X_whatIsAgainst Z S jv = x84 := by subst ex84; exact (if_neg c1).trans ((if_neg c2).trans ((if_pos c3).trans ((if_neg c32).trans ((if_pos c61).trans ((if_pos c62).trans ((if_pos c76).trans ((if_pos c77).trans ((if_neg c78).trans ((if_pos c83))))))))))
                          exact rt_i hx hb hr hlocks hI hA hQ ⟨by rw [HE], rfl⟩ (Nat.zero_le _) (Nat.zero_le _) dX3_whatIsAgainst_153
                        refine lv_icmp_le (tgt := 152) hx hb dX3_whatIsAgainst_144 (by decide) (fun c86 => ?_) (fun c86 => ?_)
                        · refine lv_iconst (v := 0) hx hb dX3_whatIsAgainst_152 (by decide) ?_
                          exact hJ85 0 (by exact (if_pos c86).symm)
                        · refine lv_bipush (v := 6) hx hb dX3_whatIsAgainst_147 (by decide) ?_
                          refine lv_goto (tgt := 153) hx hb dX3_whatIsAgainst_149 (by decide) ?_
                          exact hJ85 6 (by exact (if_neg c86).symm)
                      · refine lv_iconst (v := 5) hx hb dX3_whatIsAgainst_130 (by decide) ?_
                        have HE : X_whatIsAgainst Z S jv = 5 := by exact (if_neg c1).trans ((if_neg c2).trans ((if_pos c3).trans ((if_neg c32).trans ((if_pos c61).trans ((if_pos c62).trans ((if_pos c76).trans ((if_pos c77).trans ((if_neg c78).trans ((if_neg c83))))))))))
                        exact rt_i hx hb hr hlocks hI hA hQ ⟨by rw [HE], rfl⟩ (Nat.zero_le _) (Nat.zero_le _) dX3_whatIsAgainst_131
                    refine lv_if_ne (tgt := 123) hx hb dX3_whatIsAgainst_116 (by decide) (fun c87 => ?_) (fun c87 => ?_)
                    · refine lv_iconst (v := 0) hx hb dX3_whatIsAgainst_123 (by decide) ?_
                      have eb88 : (0 : Int32) = bI ((S.1 2 jv 5) = 0) := (bI_f c87).symm
                      rw [eb88]
                      exact hJ82
                    · refine lv_iconst (v := 1) hx hb dX3_whatIsAgainst_119 (by decide) ?_
                      refine lv_goto (tgt := 124) hx hb dX3_whatIsAgainst_120 (by decide) ?_
                      have eb89 : (1 : Int32) = bI ((S.1 2 jv 5) = 0) := (bI_t c87).symm
                      rw [eb89]
                      exact hJ82
                · refine lv_iconst (v := 4) hx hb dX3_whatIsAgainst_102 (by decide) ?_
                  have HE : X_whatIsAgainst Z S jv = 4 := by exact (if_neg c1).trans ((if_neg c2).trans ((if_pos c3).trans ((if_neg c32).trans ((if_pos c61).trans ((if_pos c62).trans ((if_pos c76).trans ((if_neg c77))))))))
                  exact rt_i hx hb hr hlocks hI hA hQ ⟨by rw [HE], rfl⟩ (Nat.zero_le _) (Nat.zero_le _) dX3_whatIsAgainst_103
              · refine lv_iconst (v := 3) hx hb dX3_whatIsAgainst_80 (by decide) ?_
                have HE : X_whatIsAgainst Z S jv = 3 := by exact (if_neg c1).trans ((if_neg c2).trans ((if_pos c3).trans ((if_neg c32).trans ((if_pos c61).trans ((if_pos c62).trans ((if_neg c76)))))))
                exact rt_i hx hb hr hlocks hI hA hQ ⟨by rw [HE], rfl⟩ (Nat.zero_le _) (Nat.zero_le _) dX3_whatIsAgainst_81
          · refine lv_iload_n hx hb dX3_whatIsAgainst_49 rfl (lv_at hl 0 rfl) ?_
            refine lv_sipush (v := 1199) hx hb dX3_whatIsAgainst_50 (by decide) ?_
            refine lv_icmp_gt (tgt := 58) hx hb dX3_whatIsAgainst_53 (by decide) (fun c90 => ?_) (fun c90 => ?_)
            · refine lv_aload_n hx hb dX3_whatIsAgainst_58 rfl (lv_at hl 3 rfl) ?_
              refine cVv (rest := []) hx hb hml hts hown hK hE hI (cX_weight G Z S jv hjv hC) kX3_139 ⟨Nat.le_of_ble_eq_true rfl, Nat.le_of_ble_eq_true rfl⟩ rfl rfl (kk := 2) (ii := jv) (xW2 hjv) rfl rfl hl.1 rfl (Nat.le_of_ble_eq_true rfl) dX3_whatIsAgainst_59 ⟨Nat.zero_le _, Nat.zero_le _⟩ (fun H locs hI => ?_)
              refine lv_istore (lv' := [(4, .int (X_weight Z S jv)), (3, .int ((S.1 0 0 6) - (S.1 0 0 6) / 1440 * 1440)), (2, .ref (Z.A 1 (X_pieceAhead Z S jv - 1))), (0, .ref (Z.A 0 0)), (1, .ref (Z.A 2 jv))]) hx hb dX3_whatIsAgainst_62 hl (by decide) rfl (fun ls hl => ?_)
              refine lv_aload_n hx hb dX3_whatIsAgainst_64 rfl (lv_at hl 2 rfl) ?_
              refine gX3_101 (i := X_pieceAhead Z S jv - 1) hx hb hts hown hK hI (pA_lt hWZ c1) dX3_whatIsAgainst_65 ?_
              refine lv_iconst (v := 1) hx hb dX3_whatIsAgainst_68 (by decide) ?_
              refine lv_icmp_ne (tgt := 82) hx hb dX3_whatIsAgainst_69 (by decide) (fun c91 => ?_) (fun c91 => ?_)
              · refine lv_aload_n hx hb dX3_whatIsAgainst_82 rfl (lv_at hl 3 rfl) ?_
                refine gX3_32 (i := 0) hx hb hts hown hK hI (by decide) dX3_whatIsAgainst_83 ?_
                refine lv_aload_n hx hb dX3_whatIsAgainst_86 rfl (lv_at hl 2 rfl) ?_
                refine lv_aload_n hx hb dX3_whatIsAgainst_87 rfl (lv_at hl 4 rfl) ?_
                refine gX3_144 (i := jv) hx hb hts hown hK hI hjv dX3_whatIsAgainst_88 ?_
                refine cVv (rest := [.int (S.1 0 0 6)]) hx hb hml hts hown hK hE hI (cX_lastComing G Z S (X_pieceAhead Z S jv - 1) (S.1 2 jv 5) (pA_lt hWZ c1)) kX3_286 ⟨Nat.le_of_ble_eq_true rfl, Nat.le_of_ble_eq_true rfl⟩ rfl rfl (kk := 1) (ii := X_pieceAhead Z S jv - 1) (xW1 (pA_lt hWZ c1)) rfl rfl hl.1 rfl (Nat.le_of_ble_eq_true rfl) dX3_whatIsAgainst_91 ⟨Nat.zero_le _, Nat.zero_le _⟩ (fun H locs hI => ?_)
                refine lv_isub hx hb dX3_whatIsAgainst_94 ?_
                refine lv_aload_n hx hb dX3_whatIsAgainst_95 rfl (lv_at hl 3 rfl) ?_
                refine gX3_39 (i := 0) hx hb hts hown hK hI (by decide) dX3_whatIsAgainst_96 ?_
                refine lv_icmp_ge (tgt := 104) hx hb dX3_whatIsAgainst_99 (by decide) (fun c92 => ?_) (fun c92 => ?_)
                · refine lv_aload_n hx hb dX3_whatIsAgainst_104 rfl (lv_at hl 2 rfl) ?_
                  refine gX3_289 (i := X_pieceAhead Z S jv - 1) hx hb hts hown hK hI (pA_lt hWZ c1) dX3_whatIsAgainst_105 ?_
                  refine lv_if_eq (tgt := 132) hx hb dX3_whatIsAgainst_108 (by decide) (fun c93 => ?_) (fun c93 => ?_)
                  · refine lv_aload_n hx hb dX3_whatIsAgainst_132 rfl (lv_at hl 2 rfl) ?_
                    refine gX3_277 (i := X_pieceAhead Z S jv - 1) hx hb hts hown hK hI (pA_lt hWZ c1) dX3_whatIsAgainst_133 ?_
                    refine lv_iload hx hb dX3_whatIsAgainst_136 (lv_at hl 0 rfl) ?_
                    refine lv_iadd hx hb dX3_whatIsAgainst_138 ?_
                    refine lv_aload_n hx hb dX3_whatIsAgainst_139 rfl (lv_at hl 2 rfl) ?_
                    refine lv_iconst (v := 1) hx hb dX3_whatIsAgainst_140 (by decide) ?_
                    refine cVv (rest := [.int ((S.1 1 (X_pieceAhead Z S jv - 1) 13) + (X_weight Z S jv))]) hx hb hml hts hown hK hE hI (cX_bearsAs G Z S (X_pieceAhead Z S jv - 1) 1 (pA_lt hWZ c1)) kX3_183 ⟨Nat.le_of_ble_eq_true rfl, Nat.le_of_ble_eq_true rfl⟩ rfl rfl (kk := 1) (ii := X_pieceAhead Z S jv - 1) (xW1 (pA_lt hWZ c1)) rfl rfl hl.1 rfl (Nat.le_of_ble_eq_true rfl) dX3_whatIsAgainst_141 ⟨Nat.zero_le _, Nat.zero_le _⟩ (fun H locs hI => ?_)
                    have hJ95 : ∀ (x94 : Int32), (x94 = if ((S.1 1 (X_pieceAhead Z S jv - 1) 13) + (X_weight Z S jv)) ≤ (X_bearsAs Z S (X_pieceAhead Z S jv - 1) 1) then 0 else 6) → W p G.1 e ({ frames := 4, cells := 0, slots := 0, locals := 86 }) s m args below meth c H locs 0 0 Q (F0 m 153 ls [.int x94]) := by
                      intro x94 ex94
                      have HE : X_whatIsAgainst Z S jv = x94 := by subst ex94; exact (if_neg c1).trans ((if_neg c2).trans ((if_pos c3).trans ((if_neg c32).trans ((if_neg c61).trans ((if_pos c90).trans ((if_neg c91).trans ((if_pos c92).trans ((if_pos c93)))))))))
                      exact rt_i hx hb hr hlocks hI hA hQ ⟨by rw [HE], rfl⟩ (Nat.zero_le _) (Nat.zero_le _) dX3_whatIsAgainst_153
                    refine lv_icmp_le (tgt := 152) hx hb dX3_whatIsAgainst_144 (by decide) (fun c96 => ?_) (fun c96 => ?_)
                    · refine lv_iconst (v := 0) hx hb dX3_whatIsAgainst_152 (by decide) ?_
                      exact hJ95 0 (by exact (if_pos c96).symm)
                    · refine lv_bipush (v := 6) hx hb dX3_whatIsAgainst_147 (by decide) ?_
                      refine lv_goto (tgt := 153) hx hb dX3_whatIsAgainst_149 (by decide) ?_
                      exact hJ95 6 (by exact (if_neg c96).symm)
                  · refine lv_aload_n hx hb dX3_whatIsAgainst_111 rfl (lv_at hl 2 rfl) ?_
                    refine lv_aload_n hx hb dX3_whatIsAgainst_112 rfl (lv_at hl 4 rfl) ?_
                    refine gX3_144 (i := jv) hx hb hts hown hK hI hjv dX3_whatIsAgainst_113 ?_
                    have hJ97 : W p G.1 e ({ frames := 4, cells := 0, slots := 0, locals := 86 }) s m args below meth c H locs 0 0 Q (F0 m 124 ls [.int (bI ((S.1 2 jv 5) = 0)), .ref (Z.A 1 (X_pieceAhead Z S jv - 1))]) := by
                      refine cVv (rest := []) hx hb hml hts hown hK hE hI (cX_countOn G Z S (X_pieceAhead Z S jv - 1) (bI ((S.1 2 jv 5) = 0)) (pA_lt hWZ c1)) kX3_292 ⟨Nat.le_of_ble_eq_true rfl, Nat.le_of_ble_eq_true rfl⟩ rfl rfl (kk := 1) (ii := X_pieceAhead Z S jv - 1) (xW1 (pA_lt hWZ c1)) rfl rfl hl.1 rfl (Nat.le_of_ble_eq_true rfl) dX3_whatIsAgainst_124 ⟨Nat.zero_le _, Nat.zero_le _⟩ (fun H locs hI => ?_)
                      refine lv_if_le (tgt := 132) hx hb dX3_whatIsAgainst_127 (by decide) (fun c98 => ?_) (fun c98 => ?_)
                      · refine lv_aload_n hx hb dX3_whatIsAgainst_132 rfl (lv_at hl 2 rfl) ?_
                        refine gX3_277 (i := X_pieceAhead Z S jv - 1) hx hb hts hown hK hI (pA_lt hWZ c1) dX3_whatIsAgainst_133 ?_
                        refine lv_iload hx hb dX3_whatIsAgainst_136 (lv_at hl 0 rfl) ?_
                        refine lv_iadd hx hb dX3_whatIsAgainst_138 ?_
                        refine lv_aload_n hx hb dX3_whatIsAgainst_139 rfl (lv_at hl 2 rfl) ?_
                        refine lv_iconst (v := 1) hx hb dX3_whatIsAgainst_140 (by decide) ?_
                        refine cVv (rest := [.int ((S.1 1 (X_pieceAhead Z S jv - 1) 13) + (X_weight Z S jv))]) hx hb hml hts hown hK hE hI (cX_bearsAs G Z S (X_pieceAhead Z S jv - 1) 1 (pA_lt hWZ c1)) kX3_183 ⟨Nat.le_of_ble_eq_true rfl, Nat.le_of_ble_eq_true rfl⟩ rfl rfl (kk := 1) (ii := X_pieceAhead Z S jv - 1) (xW1 (pA_lt hWZ c1)) rfl rfl hl.1 rfl (Nat.le_of_ble_eq_true rfl) dX3_whatIsAgainst_141 ⟨Nat.zero_le _, Nat.zero_le _⟩ (fun H locs hI => ?_)
                        have hJ100 : ∀ (x99 : Int32), (x99 = if ((S.1 1 (X_pieceAhead Z S jv - 1) 13) + (X_weight Z S jv)) ≤ (X_bearsAs Z S (X_pieceAhead Z S jv - 1) 1) then 0 else 6) → W p G.1 e ({ frames := 4, cells := 0, slots := 0, locals := 86 }) s m args below meth c H locs 0 0 Q (F0 m 153 ls [.int x99]) := by
                          intro x99 ex99
                          have HE : X_whatIsAgainst Z S jv = x99 := by subst ex99; exact (if_neg c1).trans ((if_neg c2).trans ((if_pos c3).trans ((if_neg c32).trans ((if_neg c61).trans ((if_pos c90).trans ((if_neg c91).trans ((if_pos c92).trans ((if_neg c93).trans ((if_pos c98))))))))))
                          exact rt_i hx hb hr hlocks hI hA hQ ⟨by rw [HE], rfl⟩ (Nat.zero_le _) (Nat.zero_le _) dX3_whatIsAgainst_153
                        refine lv_icmp_le (tgt := 152) hx hb dX3_whatIsAgainst_144 (by decide) (fun c101 => ?_) (fun c101 => ?_)
                        · refine lv_iconst (v := 0) hx hb dX3_whatIsAgainst_152 (by decide) ?_
                          exact hJ100 0 (by exact (if_pos c101).symm)
                        · refine lv_bipush (v := 6) hx hb dX3_whatIsAgainst_147 (by decide) ?_
                          refine lv_goto (tgt := 153) hx hb dX3_whatIsAgainst_149 (by decide) ?_
                          exact hJ100 6 (by exact (if_neg c101).symm)
                      · refine lv_iconst (v := 5) hx hb dX3_whatIsAgainst_130 (by decide) ?_
                        have HE : X_whatIsAgainst Z S jv = 5 := by exact (if_neg c1).trans ((if_neg c2).trans ((if_pos c3).trans ((if_neg c32).trans ((if_neg c61).trans ((if_pos c90).trans ((if_neg c91).trans ((if_pos c92).trans ((if_neg c93).trans ((if_neg c98))))))))))
                        exact rt_i hx hb hr hlocks hI hA hQ ⟨by rw [HE], rfl⟩ (Nat.zero_le _) (Nat.zero_le _) dX3_whatIsAgainst_131
                    refine lv_if_ne (tgt := 123) hx hb dX3_whatIsAgainst_116 (by decide) (fun c102 => ?_) (fun c102 => ?_)
                    · refine lv_iconst (v := 0) hx hb dX3_whatIsAgainst_123 (by decide) ?_
                      have eb103 : (0 : Int32) = bI ((S.1 2 jv 5) = 0) := (bI_f c102).symm
                      rw [eb103]
                      exact hJ97
                    · refine lv_iconst (v := 1) hx hb dX3_whatIsAgainst_119 (by decide) ?_
                      refine lv_goto (tgt := 124) hx hb dX3_whatIsAgainst_120 (by decide) ?_
                      have eb104 : (1 : Int32) = bI ((S.1 2 jv 5) = 0) := (bI_t c102).symm
                      rw [eb104]
                      exact hJ97
                · refine lv_iconst (v := 4) hx hb dX3_whatIsAgainst_102 (by decide) ?_
                  have HE : X_whatIsAgainst Z S jv = 4 := by exact (if_neg c1).trans ((if_neg c2).trans ((if_pos c3).trans ((if_neg c32).trans ((if_neg c61).trans ((if_pos c90).trans ((if_neg c91).trans ((if_neg c92))))))))
                  exact rt_i hx hb hr hlocks hI hA hQ ⟨by rw [HE], rfl⟩ (Nat.zero_le _) (Nat.zero_le _) dX3_whatIsAgainst_103
              · refine lv_iload hx hb dX3_whatIsAgainst_72 (lv_at hl 0 rfl) ?_
                refine lv_sipush (v := 5000) hx hb dX3_whatIsAgainst_74 (by decide) ?_
                refine lv_icmp_le (tgt := 82) hx hb dX3_whatIsAgainst_77 (by decide) (fun c105 => ?_) (fun c105 => ?_)
                · refine lv_aload_n hx hb dX3_whatIsAgainst_82 rfl (lv_at hl 3 rfl) ?_
                  refine gX3_32 (i := 0) hx hb hts hown hK hI (by decide) dX3_whatIsAgainst_83 ?_
                  refine lv_aload_n hx hb dX3_whatIsAgainst_86 rfl (lv_at hl 2 rfl) ?_
                  refine lv_aload_n hx hb dX3_whatIsAgainst_87 rfl (lv_at hl 4 rfl) ?_
                  refine gX3_144 (i := jv) hx hb hts hown hK hI hjv dX3_whatIsAgainst_88 ?_
                  refine cVv (rest := [.int (S.1 0 0 6)]) hx hb hml hts hown hK hE hI (cX_lastComing G Z S (X_pieceAhead Z S jv - 1) (S.1 2 jv 5) (pA_lt hWZ c1)) kX3_286 ⟨Nat.le_of_ble_eq_true rfl, Nat.le_of_ble_eq_true rfl⟩ rfl rfl (kk := 1) (ii := X_pieceAhead Z S jv - 1) (xW1 (pA_lt hWZ c1)) rfl rfl hl.1 rfl (Nat.le_of_ble_eq_true rfl) dX3_whatIsAgainst_91 ⟨Nat.zero_le _, Nat.zero_le _⟩ (fun H locs hI => ?_)
                  refine lv_isub hx hb dX3_whatIsAgainst_94 ?_
                  refine lv_aload_n hx hb dX3_whatIsAgainst_95 rfl (lv_at hl 3 rfl) ?_
                  refine gX3_39 (i := 0) hx hb hts hown hK hI (by decide) dX3_whatIsAgainst_96 ?_
                  refine lv_icmp_ge (tgt := 104) hx hb dX3_whatIsAgainst_99 (by decide) (fun c106 => ?_) (fun c106 => ?_)
                  · refine lv_aload_n hx hb dX3_whatIsAgainst_104 rfl (lv_at hl 2 rfl) ?_
                    refine gX3_289 (i := X_pieceAhead Z S jv - 1) hx hb hts hown hK hI (pA_lt hWZ c1) dX3_whatIsAgainst_105 ?_
                    refine lv_if_eq (tgt := 132) hx hb dX3_whatIsAgainst_108 (by decide) (fun c107 => ?_) (fun c107 => ?_)
                    · refine lv_aload_n hx hb dX3_whatIsAgainst_132 rfl (lv_at hl 2 rfl) ?_
                      refine gX3_277 (i := X_pieceAhead Z S jv - 1) hx hb hts hown hK hI (pA_lt hWZ c1) dX3_whatIsAgainst_133 ?_
                      refine lv_iload hx hb dX3_whatIsAgainst_136 (lv_at hl 0 rfl) ?_
                      refine lv_iadd hx hb dX3_whatIsAgainst_138 ?_
                      refine lv_aload_n hx hb dX3_whatIsAgainst_139 rfl (lv_at hl 2 rfl) ?_
                      refine lv_iconst (v := 1) hx hb dX3_whatIsAgainst_140 (by decide) ?_
                      refine cVv (rest := [.int ((S.1 1 (X_pieceAhead Z S jv - 1) 13) + (X_weight Z S jv))]) hx hb hml hts hown hK hE hI (cX_bearsAs G Z S (X_pieceAhead Z S jv - 1) 1 (pA_lt hWZ c1)) kX3_183 ⟨Nat.le_of_ble_eq_true rfl, Nat.le_of_ble_eq_true rfl⟩ rfl rfl (kk := 1) (ii := X_pieceAhead Z S jv - 1) (xW1 (pA_lt hWZ c1)) rfl rfl hl.1 rfl (Nat.le_of_ble_eq_true rfl) dX3_whatIsAgainst_141 ⟨Nat.zero_le _, Nat.zero_le _⟩ (fun H locs hI => ?_)
                      have hJ109 : ∀ (x108 : Int32), (x108 = if ((S.1 1 (X_pieceAhead Z S jv - 1) 13) + (X_weight Z S jv)) ≤ (X_bearsAs Z S (X_pieceAhead Z S jv - 1) 1) then 0 else 6) → W p G.1 e ({ frames := 4, cells := 0, slots := 0, locals := 86 }) s m args below meth c H locs 0 0 Q (F0 m 153 ls [.int x108]) := by
                        intro x108 ex108
                        have HE : X_whatIsAgainst Z S jv = x108 := by subst ex108; exact (if_neg c1).trans ((if_neg c2).trans ((if_pos c3).trans ((if_neg c32).trans ((if_neg c61).trans ((if_pos c90).trans ((if_pos c91).trans ((if_pos c105).trans ((if_pos c106).trans ((if_pos c107))))))))))
                        exact rt_i hx hb hr hlocks hI hA hQ ⟨by rw [HE], rfl⟩ (Nat.zero_le _) (Nat.zero_le _) dX3_whatIsAgainst_153
                      refine lv_icmp_le (tgt := 152) hx hb dX3_whatIsAgainst_144 (by decide) (fun c110 => ?_) (fun c110 => ?_)
                      · refine lv_iconst (v := 0) hx hb dX3_whatIsAgainst_152 (by decide) ?_
                        exact hJ109 0 (by exact (if_pos c110).symm)
                      · refine lv_bipush (v := 6) hx hb dX3_whatIsAgainst_147 (by decide) ?_
                        refine lv_goto (tgt := 153) hx hb dX3_whatIsAgainst_149 (by decide) ?_
                        exact hJ109 6 (by exact (if_neg c110).symm)
                    · refine lv_aload_n hx hb dX3_whatIsAgainst_111 rfl (lv_at hl 2 rfl) ?_
                      refine lv_aload_n hx hb dX3_whatIsAgainst_112 rfl (lv_at hl 4 rfl) ?_
                      refine gX3_144 (i := jv) hx hb hts hown hK hI hjv dX3_whatIsAgainst_113 ?_
                      have hJ111 : W p G.1 e ({ frames := 4, cells := 0, slots := 0, locals := 86 }) s m args below meth c H locs 0 0 Q (F0 m 124 ls [.int (bI ((S.1 2 jv 5) = 0)), .ref (Z.A 1 (X_pieceAhead Z S jv - 1))]) := by
                        refine cVv (rest := []) hx hb hml hts hown hK hE hI (cX_countOn G Z S (X_pieceAhead Z S jv - 1) (bI ((S.1 2 jv 5) = 0)) (pA_lt hWZ c1)) kX3_292 ⟨Nat.le_of_ble_eq_true rfl, Nat.le_of_ble_eq_true rfl⟩ rfl rfl (kk := 1) (ii := X_pieceAhead Z S jv - 1) (xW1 (pA_lt hWZ c1)) rfl rfl hl.1 rfl (Nat.le_of_ble_eq_true rfl) dX3_whatIsAgainst_124 ⟨Nat.zero_le _, Nat.zero_le _⟩ (fun H locs hI => ?_)
                        refine lv_if_le (tgt := 132) hx hb dX3_whatIsAgainst_127 (by decide) (fun c112 => ?_) (fun c112 => ?_)
                        · refine lv_aload_n hx hb dX3_whatIsAgainst_132 rfl (lv_at hl 2 rfl) ?_
                          refine gX3_277 (i := X_pieceAhead Z S jv - 1) hx hb hts hown hK hI (pA_lt hWZ c1) dX3_whatIsAgainst_133 ?_
                          refine lv_iload hx hb dX3_whatIsAgainst_136 (lv_at hl 0 rfl) ?_
                          refine lv_iadd hx hb dX3_whatIsAgainst_138 ?_
                          refine lv_aload_n hx hb dX3_whatIsAgainst_139 rfl (lv_at hl 2 rfl) ?_
                          refine lv_iconst (v := 1) hx hb dX3_whatIsAgainst_140 (by decide) ?_
                          refine cVv (rest := [.int ((S.1 1 (X_pieceAhead Z S jv - 1) 13) + (X_weight Z S jv))]) hx hb hml hts hown hK hE hI (cX_bearsAs G Z S (X_pieceAhead Z S jv - 1) 1 (pA_lt hWZ c1)) kX3_183 ⟨Nat.le_of_ble_eq_true rfl, Nat.le_of_ble_eq_true rfl⟩ rfl rfl (kk := 1) (ii := X_pieceAhead Z S jv - 1) (xW1 (pA_lt hWZ c1)) rfl rfl hl.1 rfl (Nat.le_of_ble_eq_true rfl) dX3_whatIsAgainst_141 ⟨Nat.zero_le _, Nat.zero_le _⟩ (fun H locs hI => ?_)
                          have hJ114 : ∀ (x113 : Int32), (x113 = if ((S.1 1 (X_pieceAhead Z S jv - 1) 13) + (X_weight Z S jv)) ≤ (X_bearsAs Z S (X_pieceAhead Z S jv - 1) 1) then 0 else 6) → W p G.1 e ({ frames := 4, cells := 0, slots := 0, locals := 86 }) s m args below meth c H locs 0 0 Q (F0 m 153 ls [.int x113]) := by
                            intro x113 ex113
                            have HE : X_whatIsAgainst Z S jv = x113 := by subst ex113; exact (if_neg c1).trans ((if_neg c2).trans ((if_pos c3).trans ((if_neg c32).trans ((if_neg c61).trans ((if_pos c90).trans ((if_pos c91).trans ((if_pos c105).trans ((if_pos c106).trans ((if_neg c107).trans ((if_pos c112)))))))))))
                            exact rt_i hx hb hr hlocks hI hA hQ ⟨by rw [HE], rfl⟩ (Nat.zero_le _) (Nat.zero_le _) dX3_whatIsAgainst_153
                          refine lv_icmp_le (tgt := 152) hx hb dX3_whatIsAgainst_144 (by decide) (fun c115 => ?_) (fun c115 => ?_)
                          · refine lv_iconst (v := 0) hx hb dX3_whatIsAgainst_152 (by decide) ?_
                            exact hJ114 0 (by exact (if_pos c115).symm)
                          · refine lv_bipush (v := 6) hx hb dX3_whatIsAgainst_147 (by decide) ?_
                            refine lv_goto (tgt := 153) hx hb dX3_whatIsAgainst_149 (by decide) ?_
                            exact hJ114 6 (by exact (if_neg c115).symm)
                        · refine lv_iconst (v := 5) hx hb dX3_whatIsAgainst_130 (by decide) ?_
                          have HE : X_whatIsAgainst Z S jv = 5 := by exact (if_neg c1).trans ((if_neg c2).trans ((if_pos c3).trans ((if_neg c32).trans ((if_neg c61).trans ((if_pos c90).trans ((if_pos c91).trans ((if_pos c105).trans ((if_pos c106).trans ((if_neg c107).trans ((if_neg c112)))))))))))
                          exact rt_i hx hb hr hlocks hI hA hQ ⟨by rw [HE], rfl⟩ (Nat.zero_le _) (Nat.zero_le _) dX3_whatIsAgainst_131
                      refine lv_if_ne (tgt := 123) hx hb dX3_whatIsAgainst_116 (by decide) (fun c116 => ?_) (fun c116 => ?_)
                      · refine lv_iconst (v := 0) hx hb dX3_whatIsAgainst_123 (by decide) ?_
                        have eb117 : (0 : Int32) = bI ((S.1 2 jv 5) = 0) := (bI_f c116).symm
                        rw [eb117]
                        exact hJ111
                      · refine lv_iconst (v := 1) hx hb dX3_whatIsAgainst_119 (by decide) ?_
                        refine lv_goto (tgt := 124) hx hb dX3_whatIsAgainst_120 (by decide) ?_
                        have eb118 : (1 : Int32) = bI ((S.1 2 jv 5) = 0) := (bI_t c116).symm
                        rw [eb118]
                        exact hJ111
                  · refine lv_iconst (v := 4) hx hb dX3_whatIsAgainst_102 (by decide) ?_
                    have HE : X_whatIsAgainst Z S jv = 4 := by exact (if_neg c1).trans ((if_neg c2).trans ((if_pos c3).trans ((if_neg c32).trans ((if_neg c61).trans ((if_pos c90).trans ((if_pos c91).trans ((if_pos c105).trans ((if_neg c106)))))))))
                    exact rt_i hx hb hr hlocks hI hA hQ ⟨by rw [HE], rfl⟩ (Nat.zero_le _) (Nat.zero_le _) dX3_whatIsAgainst_103
                · refine lv_iconst (v := 3) hx hb dX3_whatIsAgainst_80 (by decide) ?_
                  have HE : X_whatIsAgainst Z S jv = 3 := by exact (if_neg c1).trans ((if_neg c2).trans ((if_pos c3).trans ((if_neg c32).trans ((if_neg c61).trans ((if_pos c90).trans ((if_pos c91).trans ((if_neg c105))))))))
                  exact rt_i hx hb hr hlocks hI hA hQ ⟨by rw [HE], rfl⟩ (Nat.zero_le _) (Nat.zero_le _) dX3_whatIsAgainst_81
            · refine lv_iconst (v := 2) hx hb dX3_whatIsAgainst_56 (by decide) ?_
              have HE : X_whatIsAgainst Z S jv = 2 := by exact (if_neg c1).trans ((if_neg c2).trans ((if_pos c3).trans ((if_neg c32).trans ((if_neg c61).trans ((if_neg c90))))))
              exact rt_i hx hb hr hlocks hI hA hQ ⟨by rw [HE], rfl⟩ (Nat.zero_le _) (Nat.zero_le _) dX3_whatIsAgainst_57
    · refine lv_iconst (v := 1) hx hb dX3_whatIsAgainst_17 (by decide) ?_
      have HE : X_whatIsAgainst Z S jv = 1 := by exact (if_neg c1).trans ((if_pos c2))
      exact rt_i hx hb hr hlocks hI hA hQ ⟨by rw [HE], rfl⟩ (Nat.zero_le _) (Nat.zero_le _) dX3_whatIsAgainst_18

def X_kilosMissing (Z : XZ) (S : XS) (ug : Int32) : Int32 :=
  if ug < 0 then
    0
  else
    if ug < 3 then
      let x3 := if 0 < ((S.1 5 5 ug.toNatClampNeg) - (S.1 5 4 ug.toNatClampNeg)) then ((S.1 5 5 ug.toNatClampNeg) - (S.1 5 4 ug.toNatClampNeg)) else 0
      x3
    else
      0
set_option maxHeartbeats 4000000 in
set_option maxRecDepth 100000 in
theorem cX_kilosMissing (G : GX) (Z : XZ) (S : XS) (ug : Int32) : FC G yX3_kilosMissing cX3_kilosMissing 2 (some .int) ({ frames := 1, cells := 0, slots := 0, locals := 21 }) [.ref (Z.A 0 0), .int ug] (xW G.2.2.2 G.2.1 Z S) (pv (.int (X_kilosMissing Z S ug)) (xW G.2.2.2 G.2.1 Z S)) := by
  refine FC.go (lv := [(0, .ref (Z.A 0 0)), (1, .int ug)]) (by decide) (Nat.le_of_ble_eq_true rfl) rfl (fun p e s m args below meth c A H locs ls Q hx hb hr hts hown hml hlocks hnm hK hE hI hA hl hQ => ?_)
  have hown : s.vm.findClass RX3 = some m.cls := hown
  refine lv_iload_n hx hb dX3_kilosMissing_0 rfl (lv_at hl 1 rfl) ?_
  refine lv_if_lt (tgt := 9) hx hb dX3_kilosMissing_1 (by decide) (fun c1 => ?_) (fun c1 => ?_)
  · refine lv_iconst (v := 0) hx hb dX3_kilosMissing_9 (by decide) ?_
    have HE : X_kilosMissing Z S ug = 0 := by exact (if_pos c1)
    exact rt_i hx hb hr hlocks hI hA hQ ⟨by rw [HE], rfl⟩ (Nat.zero_le _) (Nat.zero_le _) dX3_kilosMissing_10
  · refine lv_iload_n hx hb dX3_kilosMissing_4 rfl (lv_at hl 1 rfl) ?_
    refine lv_iconst (v := 3) hx hb dX3_kilosMissing_5 (by decide) ?_
    refine lv_icmp_lt (tgt := 11) hx hb dX3_kilosMissing_6 (by decide) (fun c2 => ?_) (fun c2 => ?_)
    · refine lv_iconst (v := 0) hx hb dX3_kilosMissing_11 (by decide) ?_
      refine lv_aload_n hx hb dX3_kilosMissing_12 rfl (lv_at hl 0 rfl) ?_
      refine gX3_29 (i := 0) hx hb hts hown hK hI (by decide) dX3_kilosMissing_13 ?_
      refine lv_iload_n hx hb dX3_kilosMissing_16 rfl (lv_at hl 1 rfl) ?_
      refine lX_5 (n := 5) hx hb hK hI (by decide) (lin3 c1 c2) dX3_kilosMissing_17 ?_
      refine lv_aload_n hx hb dX3_kilosMissing_18 rfl (lv_at hl 0 rfl) ?_
      refine gX3_26 (i := 0) hx hb hts hown hK hI (by decide) dX3_kilosMissing_19 ?_
      refine lv_iload_n hx hb dX3_kilosMissing_22 rfl (lv_at hl 1 rfl) ?_
      refine lX_5 (n := 4) hx hb hK hI (by decide) (lin3 c1 c2) dX3_kilosMissing_23 ?_
      refine lv_isub hx hb dX3_kilosMissing_24 ?_
      obtain ⟨x3, ex3⟩ : ∃ z : Int32, z = (if 0 < ((S.1 5 5 ug.toNatClampNeg) - (S.1 5 4 ug.toNatClampNeg)) then ((S.1 5 5 ug.toNatClampNeg) - (S.1 5 4 ug.toNatClampNeg)) else 0) := ⟨_, rfl⟩
      refine va_mmax (rest := []) hx hb (by rw [hml]; exact hl.1.symm) hown (hts _ q92) (hts _ q93) (hts _ q12) (hts _ q94) (Nat.le_of_ble_eq_true rfl) (Nat.le_of_ble_eq_true rfl) (Nat.zero_le _) (Nat.zero_le _) dX3_kilosMissing_25 ?_
      rw [← ex3]
      have HE : X_kilosMissing Z S ug = x3 := by subst ex3; exact (if_neg c1).trans ((if_pos c2))
      exact rt_i hx hb hr hlocks hI hA hQ ⟨by rw [HE], rfl⟩ (Nat.zero_le _) (Nat.zero_le _) dX3_kilosMissing_28
    · refine lv_iconst (v := 0) hx hb dX3_kilosMissing_9 (by decide) ?_
      have HE : X_kilosMissing Z S ug = 0 := by exact (if_neg c1).trans ((if_neg c2))
      exact rt_i hx hb hr hlocks hI hA hQ ⟨by rw [HE], rfl⟩ (Nat.zero_le _) (Nat.zero_le _) dX3_kilosMissing_10

def X_unload (Z : XZ) (S : XS) (jv : Nat) : XS :=
  let S1 := xcset S jv 0
  if (S.2.2 jv) = 0 then
    S1
  else
    if (S1.1 3 (S.2.2 jv - 1) 0) < 0 then
      S1
    else
      if (S1.1 3 (S.2.2 jv - 1) 0) < 3 then
        let S5 := if (S1.1 2 jv 3) = 3 then (xset S1 5 4 (S1.1 3 (S.2.2 jv - 1) 0).toNatClampNeg ((S1.1 5 4 (S1.1 3 (S.2.2 jv - 1) 0).toNatClampNeg) + (S1.1 3 (S.2.2 jv - 1) 1))) else (xset (xset S1 5 3 (S1.1 3 (S.2.2 jv - 1) 0).toNatClampNeg ((S1.1 5 3 (S1.1 3 (S.2.2 jv - 1) 0).toNatClampNeg) - (S1.1 3 (S.2.2 jv - 1) 1))) 3 (S.2.2 jv - 1) 2 1)
        S5
      else
        S1
set_option maxHeartbeats 4000000 in
set_option maxRecDepth 100000 in
theorem cX_unload (G : GX) (Z : XZ) (S : XS) (jv : Nat) (hjv : jv < Z.O 2) (hC : CW Z S) : FC G yX3_unload cX3_unload 3 none ({ frames := 0, cells := 0, slots := 0, locals := 0 }) [.ref (Z.A 0 0), .ref (Z.A 2 jv)] (xW G.2.2.2 G.2.1 Z S) (p0 (xW G.2.2.2 G.2.1 Z (X_unload Z S jv))) := by
  refine FC.go (lv := [(0, .ref (Z.A 0 0)), (1, .ref (Z.A 2 jv))]) (by decide) (Nat.le_of_ble_eq_true rfl) rfl (fun p e s m args below meth c A H locs ls Q hx hb hr hts hown hml hlocks hnm hK hE hI hA hl hQ => ?_)
  have hown : s.vm.findClass RX3 = some m.cls := hown
  refine lv_aload_n hx hb dX3_unload_0 rfl (lv_at hl 1 rfl) ?_
  refine gX3_128 (i := jv) hx hb hts hown hK hI hjv dX3_unload_1 ?_
  refine lv_astore_nR (lv' := [(2, (oV (Z.A 3) (S.2.2 jv))), (0, .ref (Z.A 0 0)), (1, .ref (Z.A 2 jv))]) hx hb dX3_unload_4 rfl hl (by decide) rfl (fun ls hl => ?_)
  refine lv_aload_n hx hb dX3_unload_5 rfl (lv_at hl 2 rfl) ?_
  refine lv_null hx hb dX3_unload_6 ?_
  obtain ⟨S1, eS1⟩ : ∃ z : XS, z = xcset S jv 0 := ⟨_, rfl⟩
  refine pX3_128 (i := jv) hx hb hts hown hK hI hjv rfl eS1 dX3_unload_7 (fun H locs hI => ?_)
  refine lv_aload_nR hx hb dX3_unload_10 rfl (lv_at hl 0 rfl) ?_
  refine xb_ifnull (tgt := 29) hx hb dX3_unload_11 (by decide) (fun c2 => ?_) (fun c2 => ?_)
  · have HE : X_unload Z S jv = S1 := by subst eS1; exact (if_pos c2)
    exact rt_v hx hb hr hlocks hI hA hQ ⟨rfl, by rw [HE]⟩ (Nat.zero_le _) (Nat.zero_le _) dX3_unload_29
  · rw [oV_n c2] at hl
    refine lv_aload_n hx hb dX3_unload_14 rfl (lv_at hl 0 rfl) ?_
    refine gX3_190 (i := S.2.2 jv - 1) hx hb hts hown hK hI (cw_lt hC c2) dX3_unload_15 ?_
    refine lv_if_lt (tgt := 29) hx hb dX3_unload_18 (by decide) (fun c3 => ?_) (fun c3 => ?_)
    · have HE : X_unload Z S jv = S1 := by subst eS1; exact (if_neg c2).trans ((if_pos c3))
      exact rt_v hx hb hr hlocks hI hA hQ ⟨rfl, by rw [HE]⟩ (Nat.zero_le _) (Nat.zero_le _) dX3_unload_29
    · refine lv_aload_n hx hb dX3_unload_21 rfl (lv_at hl 0 rfl) ?_
      refine gX3_190 (i := S.2.2 jv - 1) hx hb hts hown hK hI (cw_lt hC c2) dX3_unload_22 ?_
      refine lv_iconst (v := 3) hx hb dX3_unload_25 (by decide) ?_
      refine lv_icmp_lt (tgt := 30) hx hb dX3_unload_26 (by decide) (fun c4 => ?_) (fun c4 => ?_)
      · refine lv_aload_n hx hb dX3_unload_30 rfl (lv_at hl 2 rfl) ?_
        refine gX3_125 (i := jv) hx hb hts hown hK hI hjv dX3_unload_31 ?_
        refine lv_iconst (v := 3) hx hb dX3_unload_34 (by decide) ?_
        have hJ7 : ∀ (S5 : XS) (H : Heap) (locs : List Loc), (S5 = if (S1.1 2 jv 3) = 3 then (xset S1 5 4 (S1.1 3 (S.2.2 jv - 1) 0).toNatClampNeg ((S1.1 5 4 (S1.1 3 (S.2.2 jv - 1) 0).toNatClampNeg) + (S1.1 3 (S.2.2 jv - 1) 1))) else (xset (xset S1 5 3 (S1.1 3 (S.2.2 jv - 1) 0).toNatClampNeg ((S1.1 5 3 (S1.1 3 (S.2.2 jv - 1) 0).toNatClampNeg) - (S1.1 3 (S.2.2 jv - 1) 1))) 3 (S.2.2 jv - 1) 2 1)) → (fI G.2.2.1 A s.heap (xW G.2.2.2 G.2.1 Z S5) H locs) → (CW Z S5) → W p G.1 e ({ frames := 0, cells := 0, slots := 0, locals := 0 }) s m args below meth c H locs 0 0 Q (F0 m 78 ls []) := by
          intro S5 H locs eS5 hI hf6
          have HE : X_unload Z S jv = S5 := by subst eS5 eS1; exact (if_neg c2).trans ((if_neg c3).trans ((if_pos c4)))
          exact rt_v hx hb hr hlocks hI hA hQ ⟨rfl, by rw [HE]⟩ (Nat.zero_le _) (Nat.zero_le _) dX3_unload_78
        refine lv_icmp_ne (tgt := 57) hx hb dX3_unload_35 (by decide) (fun c8 => ?_) (fun c8 => ?_)
        · refine lv_aload_n hx hb dX3_unload_57 rfl (lv_at hl 1 rfl) ?_
          refine gX3_22 (i := 0) hx hb hts hown hK hI (by decide) dX3_unload_58 ?_
          refine lv_aload_n hx hb dX3_unload_61 rfl (lv_at hl 0 rfl) ?_
          refine gX3_190 (i := S.2.2 jv - 1) hx hb hts hown hK hI (cw_lt hC c2) dX3_unload_62 ?_
          refine lv_dup2_11 hx hb dX3_unload_65 rfl rfl ?_
          refine lX_5 (n := 3) hx hb hK hI (by decide) (lin3 c3 c4) dX3_unload_66 ?_
          refine lv_aload_n hx hb dX3_unload_67 rfl (lv_at hl 0 rfl) ?_
          refine gX3_187 (i := S.2.2 jv - 1) hx hb hts hown hK hI (cw_lt hC c2) dX3_unload_68 ?_
          refine lv_isub hx hb dX3_unload_71 ?_
          obtain ⟨S9, eS9⟩ : ∃ z : XS, z = xset S1 5 3 (S1.1 3 (S.2.2 jv - 1) 0).toNatClampNeg ((S1.1 5 3 (S1.1 3 (S.2.2 jv - 1) 0).toNatClampNeg) - (S1.1 3 (S.2.2 jv - 1) 1)) := ⟨_, rfl⟩
          refine sX_5 (n := 3) hx hb hK hI (by decide) (lin3 c3 c4) eS9 dX3_unload_72 (fun H locs hI => ?_)
          refine lv_aload_n hx hb dX3_unload_73 rfl (lv_at hl 0 rfl) ?_
          refine lv_iconst (v := 1) hx hb dX3_unload_74 (by decide) ?_
          obtain ⟨S10, eS10⟩ : ∃ z : XS, z = xset S9 3 (S.2.2 jv - 1) 2 1 := ⟨_, rfl⟩
          refine pX3_220 (i := S.2.2 jv - 1) hx hb hts hown hK hI (cw_lt hC c2) (by decide) eS10 dX3_unload_75 (fun H locs hI => ?_)
          exact hJ7 S10 _ _ (by subst eS10 eS9; exact (if_neg c8).symm) hI (CW_set eS10 (CW_set eS9 (CW_c eS1 (Nat.zero_le _) hC)))
        · refine lv_aload_n hx hb dX3_unload_38 rfl (lv_at hl 1 rfl) ?_
          refine gX3_26 (i := 0) hx hb hts hown hK hI (by decide) dX3_unload_39 ?_
          refine lv_aload_n hx hb dX3_unload_42 rfl (lv_at hl 0 rfl) ?_
          refine gX3_190 (i := S.2.2 jv - 1) hx hb hts hown hK hI (cw_lt hC c2) dX3_unload_43 ?_
          refine lv_dup2_11 hx hb dX3_unload_46 rfl rfl ?_
          refine lX_5 (n := 4) hx hb hK hI (by decide) (lin3 c3 c4) dX3_unload_47 ?_
          refine lv_aload_n hx hb dX3_unload_48 rfl (lv_at hl 0 rfl) ?_
          refine gX3_187 (i := S.2.2 jv - 1) hx hb hts hown hK hI (cw_lt hC c2) dX3_unload_49 ?_
          refine lv_iadd hx hb dX3_unload_52 ?_
          obtain ⟨S11, eS11⟩ : ∃ z : XS, z = xset S1 5 4 (S1.1 3 (S.2.2 jv - 1) 0).toNatClampNeg ((S1.1 5 4 (S1.1 3 (S.2.2 jv - 1) 0).toNatClampNeg) + (S1.1 3 (S.2.2 jv - 1) 1)) := ⟨_, rfl⟩
          refine sX_5 (n := 4) hx hb hK hI (by decide) (lin3 c3 c4) eS11 dX3_unload_53 (fun H locs hI => ?_)
          refine lv_goto (tgt := 78) hx hb dX3_unload_54 (by decide) ?_
          exact hJ7 S11 _ _ (by subst eS11; exact (if_pos c8).symm) hI (CW_set eS11 (CW_c eS1 (Nat.zero_le _) hC))
      · have HE : X_unload Z S jv = S1 := by subst eS1; exact (if_neg c2).trans ((if_neg c3).trans ((if_neg c4)))
        exact rt_v hx hb hr hlocks hI hA hQ ⟨rfl, by rw [HE]⟩ (Nat.zero_le _) (Nat.zero_le _) dX3_unload_29

def X_minute (Z : XZ) (S : XS) : Int32 :=
  S.1 0 0 6
set_option maxHeartbeats 4000000 in
set_option maxRecDepth 100000 in
theorem cX_minute (G : GX) (Z : XZ) (S : XS) : FC G yX3_minute cX3_minute 1 (some .int) ({ frames := 0, cells := 0, slots := 0, locals := 0 }) [.ref (Z.A 0 0)] (xW G.2.2.2 G.2.1 Z S) (pv (.int (X_minute Z S)) (xW G.2.2.2 G.2.1 Z S)) := by
  refine FC.go (lv := [(0, .ref (Z.A 0 0))]) (by decide) (Nat.le_of_ble_eq_true rfl) rfl (fun p e s m args below meth c A H locs ls Q hx hb hr hts hown hml hlocks hnm hK hE hI hA hl hQ => ?_)
  have hown : s.vm.findClass RX3 = some m.cls := hown
  refine lv_aload_n hx hb dX3_minute_0 rfl (lv_at hl 0 rfl) ?_
  refine gX3_32 (i := 0) hx hb hts hown hK hI (by decide) dX3_minute_1 ?_
  have HE : X_minute Z S = S.1 0 0 6 := by exact rfl
  exact rt_i hx hb hr hlocks hI hA hQ ⟨by rw [HE], rfl⟩ (Nat.zero_le _) (Nat.zero_le _) dX3_minute_4

