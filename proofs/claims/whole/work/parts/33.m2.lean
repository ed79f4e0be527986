def M_weights_s (S : MS) (up : Int32) (n : Nat) (a1 : Int32) : Int32 :=
  let x3 := if (S.1 20 (nI n).toNatClampNeg) = 1 then (if (S.1 21 (nI n).toNatClampNeg) = up then (M_weight S (nI n)) else 0) else 0
  let x5 := (nI n) + 1
  a1 + x3
def M_weights_f (S : MS) (up : Int32) : Nat → Int32
  | 0 => 0
  | n + 1 => M_weights_s S up n (M_weights_f S up n)

def M_weights (S : MS) (up : Int32) : Int32 :=
  let a1 := M_weights_f S up (S.1 16 0).toNatClampNeg
  a1
set_option maxHeartbeats 4000000 in
set_option maxRecDepth 100000 in
theorem cM_weights (G : GX) (ad : Nat → Nat) (S : MS) (up : Int32) {np nv : Nat} (hN : MNn S np nv) : FC G yX4_weights cX4_weights 4 (some .int) ({ frames := 1, cells := 0, slots := 0, locals := 21 }) [.ref (ad 0), .int up] (mW G.2.2.2 ad S) (pv (.int (M_weights S up)) (mW G.2.2.2 ad S)) := by
  refine FC.go (lv := [(0, .ref (ad 0)), (1, .int up)]) (by decide) (Nat.le_of_ble_eq_true rfl) rfl (fun p e s m args below meth c A H locs ls Q hx hb hr hts hown hml hlocks hnm hK hE hI hA hl hQ => ?_)
  have hown : s.vm.findClass RX4 = some m.cls := hown
  have hv16 := hN.2.2.2
  refine lv_iconst (v := 0) hx hb dX4_weights_0 (by decide) ?_
  refine lv_istore_n (lv' := [(2, .int 0), (0, .ref (ad 0)), (1, .int up)]) hx hb dX4_weights_1 rfl hl (by decide) rfl (fun ls hl => ?_)
  refine lv_iconst (v := 0) hx hb dX4_weights_2 (by decide) ?_
  refine lv_istore_n (lv' := [(3, .int 0), (2, .int 0), (0, .ref (ad 0)), (1, .int up)]) hx hb dX4_weights_3 rfl hl (by decide) rfl (fun ls hl => ?_)
  have hL2 : ∀ (k n : Nat), n + k = nv → ∀ (i_ : Int32) (a1 : Int32) (H : Heap) (locs : List Loc) (ls : Array Slot), (i_ = nI n) → (a1 = M_weights_f S up n) → (fI G.2.2.1 A s.heap (mW G.2.2.2 ad S) H locs) → (lv_has ls 4 [(3, .int i_), (2, .int a1), (0, .ref (ad 0)), (1, .int up)]) → W p G.1 e ({ frames := 1, cells := 0, slots := 0, locals := 21 }) s m args below meth c H locs 0 0 Q (F0 m 4 ls []) := by
    intro k
    induction k with
    | zero =>
      intro n hnk i_ a1 H locs ls ei ea1 hI hl
      subst ei
      refine lv_iload_n hx hb dX4_weights_4 rfl (lv_at hl 0 rfl) ?_
      refine lv_aload_n hx hb dX4_weights_5 rfl (lv_at hl 2 rfl) ?_
      refine gM_98 hx hb hts hown hK hI dX4_weights_6 ?_
      refine lv_icmp_ge (tgt := 50) hx hb dX4_weights_9 (by decide) (fun _ => ?_) (fun h => absurd (by rw [hN.2.2.1]; exact nI_le (by omega) (by omega)) h)
      have hn9 : n = (S.1 16 0).toNatClampNeg := by rw [hN.2.2.1, nI_clamp (by omega)]; omega
      rw [hn9] at ea1
      have hl : lv_has ls 4 [(2, .int a1), (0, .ref (ad 0)), (1, .int up)] := lv_sub hl [1, 2, 3] rfl
      refine lv_iload_n hx hb dX4_weights_50 rfl (lv_at hl 0 rfl) ?_
      have HE : M_weights S up = a1 := by subst ea1; exact rfl
      exact rt_i hx hb hr hlocks hI hA hQ ⟨by rw [HE], rfl⟩ (Nat.zero_le _) (Nat.zero_le _) dX4_weights_51
    | succ k ih =>
      intro n hnk i_ a1 H locs ls ei ea1 hI hl
      subst ei
      refine lv_iload_n hx hb dX4_weights_4 rfl (lv_at hl 0 rfl) ?_
      refine lv_aload_n hx hb dX4_weights_5 rfl (lv_at hl 2 rfl) ?_
      refine gM_98 hx hb hts hown hK hI dX4_weights_6 ?_
      refine lv_icmp_ge (tgt := 50) hx hb dX4_weights_9 (by decide) (fun h => absurd h (by rw [hN.2.2.1]; exact nI_ge (by omega) (by omega))) (fun _ => ?_)
      refine lv_iload_n hx hb dX4_weights_12 rfl (lv_at hl 1 rfl) ?_
      refine lv_aload_n hx hb dX4_weights_13 rfl (lv_at hl 2 rfl) ?_
      refine gM_60 hx hb hts hown hK hI dX4_weights_14 ?_
      refine lv_iload_n hx hb dX4_weights_17 rfl (lv_at hl 0 rfl) ?_
      refine lM_20 hx hb hK hI (vp_in_nI (by omega) (by decide)) dX4_weights_18 ?_
      refine lv_iconst (v := 1) hx hb dX4_weights_19 (by decide) ?_
      have hJ4 : ∀ (x3 : Int32) (H : Heap) (locs : List Loc), (x3 = if (S.1 20 (nI n).toNatClampNeg) = 1 then (if (S.1 21 (nI n).toNatClampNeg) = up then (M_weight S (nI n)) else 0) else 0) → (fI G.2.2.1 A s.heap (mW G.2.2.2 ad S) H locs) → W p G.1 e ({ frames := 1, cells := 0, slots := 0, locals := 21 }) s m args below meth c H locs 0 0 Q (F0 m 42 ls [.int x3, .int a1]) := by
        intro x3 H locs ex3 hI
        refine lv_iadd hx hb dX4_weights_42 ?_
        refine lv_istore_n (lv' := [(2, .int (a1 + x3)), (3, .int (nI n)), (0, .ref (ad 0)), (1, .int up)]) hx hb dX4_weights_43 rfl hl (by decide) rfl (fun ls hl => ?_)
        obtain ⟨x5, ex5⟩ : ∃ z : Int32, z = (nI n) + 1 := ⟨_, rfl⟩
        refine lv_iinc (v := x5) (lv' := [(3, .int x5), (2, .int (a1 + x3)), (0, .ref (ad 0)), (1, .int up)]) hx hb dX4_weights_44 hl (k := 1) rfl (by rw [ex5]; rfl) (by decide) rfl (fun ls hl => ?_)
        refine lv_goto (tgt := 4) hx hb dX4_weights_47 (by decide) ?_
        have HE : M_weights_s S up n a1 = a1 + x3 := by subst ex5 ex3; exact rfl
        exact ih (n + 1) (by omega) x5 (a1 + x3) H locs ls (by rw [ex5]; exact nI_1 n) (by show _ = M_weights_s S up n (M_weights_f S up n); rw [← ea1]; exact HE.symm) hI (lv_sub hl [0, 1, 2, 3] rfl)
      refine lv_icmp_ne (tgt := 41) hx hb dX4_weights_20 (by decide) (fun c6 => ?_) (fun c6 => ?_)
      · refine lv_iconst (v := 0) hx hb dX4_weights_41 (by decide) ?_
        exact hJ4 0 _ _ (by exact (if_neg c6).symm) hI
      · refine lv_aload_n hx hb dX4_weights_23 rfl (lv_at hl 2 rfl) ?_
        refine gM_63 hx hb hts hown hK hI dX4_weights_24 ?_
        refine lv_iload_n hx hb dX4_weights_27 rfl (lv_at hl 0 rfl) ?_
        refine lM_21 hx hb hK hI (vp_in_nI (by omega) (by decide)) dX4_weights_28 ?_
        refine lv_iload_n hx hb dX4_weights_29 rfl (lv_at hl 3 rfl) ?_
        refine lv_icmp_ne (tgt := 41) hx hb dX4_weights_30 (by decide) (fun c7 => ?_) (fun c7 => ?_)
        · refine lv_iconst (v := 0) hx hb dX4_weights_41 (by decide) ?_
          exact hJ4 0 _ _ (by exact ((if_pos c6).trans (if_neg c7)).symm) hI
        · refine lv_aload_n hx hb dX4_weights_33 rfl (lv_at hl 2 rfl) ?_
          refine lv_iload_n hx hb dX4_weights_34 rfl (lv_at hl 0 rfl) ?_
          refine cVv (rest := [.int a1]) hx hb hml hts hown hK hE hI (cM_weight G ad S (nI n) (vp_in_nI (by omega) (by decide))) kM_129 ⟨Nat.le_of_ble_eq_true rfl, Nat.le_of_ble_eq_true rfl⟩ rfl rfl (kk := 4) (ii := 0) rfl rfl rfl hl.1 rfl (Nat.le_of_ble_eq_true rfl) dX4_weights_35 ⟨Nat.zero_le _, Nat.zero_le _⟩ (fun H locs hI => ?_)
          refine lv_goto (tgt := 42) hx hb dX4_weights_38 (by decide) ?_
          exact hJ4 (M_weight S (nI n)) _ _ (by exact ((if_pos c6).trans (if_pos c7)).symm) hI
  exact hL2 nv 0 (by omega) 0 0 H locs ls nI_0.symm rfl hI (lv_sub hl [0, 1, 2, 3] rfl)

def M_isMet_s (S : MS) (uv up : Int32) (n : Nat) (a1 : Int32) : Int32 :=
  let x4 := (nI n) + 1
  bI ((¬ (a1 = 0)) ∨ (((S.1 20 (nI n).toNatClampNeg) = 1) ∧ (((S.1 21 (nI n).toNatClampNeg) = up) ∧ (¬ ((S.1 22 (nI n).toNatClampNeg) = (S.1 22 uv.toNatClampNeg))))))
def M_isMet_f (S : MS) (uv up : Int32) : Nat → Int32
  | 0 => 0
  | n + 1 => M_isMet_s S uv up n (M_isMet_f S uv up n)

def M_isMet (S : MS) (uv : Int32) (up : Int32) : Int32 :=
  let a1 := M_isMet_f S uv up (S.1 16 0).toNatClampNeg
  a1
theorem M_isMet_nar (S : MS) (uv up : Int32) (n : Nat) (a : Int32) (h : a = M_isMet_f S uv up n) : narrow .boolean (.int a) = .int a := by
  subst h
  cases n with
  | zero => show narrow .boolean (.int 0) = .int 0; decide
  | succ n => exact bI_narrow
set_option maxHeartbeats 4000000 in
set_option maxRecDepth 100000 in
theorem cM_isMet (G : GX) (ad : Nat → Nat) (S : MS) (uv : Int32) (up : Int32) {np nv : Nat} (hv : vp_in uv 16) (hN : MNn S np nv) : FC G yX4_isMet cX4_isMet 5 (some .boolean) ({ frames := 0, cells := 0, slots := 0, locals := 0 }) [.ref (ad 0), .int uv, .int up] (mW G.2.2.2 ad S) (pv (.int (M_isMet S uv up)) (mW G.2.2.2 ad S)) := by
  refine FC.go (lv := [(0, .ref (ad 0)), (1, .int uv), (2, .int up)]) (by decide) (Nat.le_of_ble_eq_true rfl) rfl (fun p e s m args below meth c A H locs ls Q hx hb hr hts hown hml hlocks hnm hK hE hI hA hl hQ => ?_)
  have hown : s.vm.findClass RX4 = some m.cls := hown
  have hv16 := hN.2.2.2
  refine lv_iconst (v := 0) hx hb dX4_isMet_0 (by decide) ?_
  refine lv_istore_n (lv' := [(3, .int 0), (0, .ref (ad 0)), (1, .int uv), (2, .int up)]) hx hb dX4_isMet_1 rfl hl (by decide) rfl (fun ls hl => ?_)
  refine lv_iconst (v := 0) hx hb dX4_isMet_2 (by decide) ?_
  refine lv_istore (lv' := [(4, .int 0), (3, .int 0), (0, .ref (ad 0)), (1, .int uv), (2, .int up)]) hx hb dX4_isMet_3 hl (by decide) rfl (fun ls hl => ?_)
  have hL2 : ∀ (k n : Nat), n + k = nv → ∀ (i_ : Int32) (a1 : Int32) (H : Heap) (locs : List Loc) (ls : Array Slot), (i_ = nI n) → (a1 = M_isMet_f S uv up n) → (fI G.2.2.1 A s.heap (mW G.2.2.2 ad S) H locs) → (lv_has ls 5 [(4, .int i_), (3, .int a1), (0, .ref (ad 0)), (1, .int uv), (2, .int up)]) → W p G.1 e ({ frames := 0, cells := 0, slots := 0, locals := 0 }) s m args below meth c H locs 0 0 Q (F0 m 5 ls []) := by
    intro k
    induction k with
    | zero =>
      intro n hnk i_ a1 H locs ls ei ea1 hI hl
      subst ei
      refine lv_iload hx hb dX4_isMet_5 (lv_at hl 0 rfl) ?_
      refine lv_aload_n hx hb dX4_isMet_7 rfl (lv_at hl 2 rfl) ?_
      refine gM_98 hx hb hts hown hK hI dX4_isMet_8 ?_
      refine lv_icmp_ge (tgt := 68) hx hb dX4_isMet_11 (by decide) (fun _ => ?_) (fun h => absurd (by rw [hN.2.2.1]; exact nI_le (by omega) (by omega)) h)
      have hn9 : n = (S.1 16 0).toNatClampNeg := by rw [hN.2.2.1, nI_clamp (by omega)]; omega
      rw [hn9] at ea1
      have hl : lv_has ls 5 [(3, .int a1), (0, .ref (ad 0)), (1, .int uv), (2, .int up)] := lv_sub hl [1, 2, 3, 4] rfl
      refine lv_iload_n hx hb dX4_isMet_68 rfl (lv_at hl 0 rfl) ?_
      have HE : M_isMet S uv up = a1 := by subst ea1; exact rfl
      exact rt_z hx hb hr hlocks (M_isMet_nar _ _ _ _ _ (by assumption)) hI hA hQ ⟨by rw [HE], rfl⟩ (Nat.zero_le _) (Nat.zero_le _) dX4_isMet_69
    | succ k ih =>
      intro n hnk i_ a1 H locs ls ei ea1 hI hl
      subst ei
      refine lv_iload hx hb dX4_isMet_5 (lv_at hl 0 rfl) ?_
      refine lv_aload_n hx hb dX4_isMet_7 rfl (lv_at hl 2 rfl) ?_
      refine gM_98 hx hb hts hown hK hI dX4_isMet_8 ?_
      refine lv_icmp_ge (tgt := 68) hx hb dX4_isMet_11 (by decide) (fun h => absurd h (by rw [hN.2.2.1]; exact nI_ge (by omega) (by omega))) (fun _ => ?_)
      refine lv_iload_n hx hb dX4_isMet_14 rfl (lv_at hl 1 rfl) ?_
      have hJ3 : W p G.1 e ({ frames := 0, cells := 0, slots := 0, locals := 0 }) s m args below meth c H locs 0 0 Q (F0 m 61 ls [.int (bI ((¬ (a1 = 0)) ∨ (((S.1 20 (nI n).toNatClampNeg) = 1) ∧ (((S.1 21 (nI n).toNatClampNeg) = up) ∧ (¬ ((S.1 22 (nI n).toNatClampNeg) = (S.1 22 uv.toNatClampNeg)))))))]) := by
        refine lv_istore_n (lv' := [(3, .int (bI ((¬ (a1 = 0)) ∨ (((S.1 20 (nI n).toNatClampNeg) = 1) ∧ (((S.1 21 (nI n).toNatClampNeg) = up) ∧ (¬ ((S.1 22 (nI n).toNatClampNeg) = (S.1 22 uv.toNatClampNeg)))))))), (4, .int (nI n)), (0, .ref (ad 0)), (1, .int uv), (2, .int up)]) hx hb dX4_isMet_61 rfl hl (by decide) rfl (fun ls hl => ?_)
        obtain ⟨x4, ex4⟩ : ∃ z : Int32, z = (nI n) + 1 := ⟨_, rfl⟩
        refine lv_iinc (v := x4) (lv' := [(4, .int x4), (3, .int (bI ((¬ (a1 = 0)) ∨ (((S.1 20 (nI n).toNatClampNeg) = 1) ∧ (((S.1 21 (nI n).toNatClampNeg) = up) ∧ (¬ ((S.1 22 (nI n).toNatClampNeg) = (S.1 22 uv.toNatClampNeg)))))))), (0, .ref (ad 0)), (1, .int uv), (2, .int up)]) hx hb dX4_isMet_62 hl (k := 1) rfl (by rw [ex4]; rfl) (by decide) rfl (fun ls hl => ?_)
        refine lv_goto (tgt := 5) hx hb dX4_isMet_65 (by decide) ?_
        have HE : M_isMet_s S uv up n a1 = bI ((¬ (a1 = 0)) ∨ (((S.1 20 (nI n).toNatClampNeg) = 1) ∧ (((S.1 21 (nI n).toNatClampNeg) = up) ∧ (¬ ((S.1 22 (nI n).toNatClampNeg) = (S.1 22 uv.toNatClampNeg)))))) := by subst ex4; exact rfl
        exact ih (n + 1) (by omega) x4 (bI ((¬ (a1 = 0)) ∨ (((S.1 20 (nI n).toNatClampNeg) = 1) ∧ (((S.1 21 (nI n).toNatClampNeg) = up) ∧ (¬ ((S.1 22 (nI n).toNatClampNeg) = (S.1 22 uv.toNatClampNeg))))))) H locs ls (by rw [ex4]; exact nI_1 n) (by show _ = M_isMet_s S uv up n (M_isMet_f S uv up n); rw [← ea1]; exact HE.symm) hI (lv_sub hl [0, 1, 2, 3, 4] rfl)
      refine lv_if_ne (tgt := 56) hx hb dX4_isMet_15 (by decide) (fun c5 => ?_) (fun c5 => ?_)
      · refine lv_iconst (v := 1) hx hb dX4_isMet_56 (by decide) ?_
        refine lv_goto (tgt := 61) hx hb dX4_isMet_57 (by decide) ?_
        have eb6 : (1 : Int32) = bI ((¬ (a1 = 0)) ∨ (((S.1 20 (nI n).toNatClampNeg) = 1) ∧ (((S.1 21 (nI n).toNatClampNeg) = up) ∧ (¬ ((S.1 22 (nI n).toNatClampNeg) = (S.1 22 uv.toNatClampNeg)))))) := (bI_t (Or.inl c5)).symm
        rw [eb6]
        exact hJ3
      · refine lv_aload_n hx hb dX4_isMet_18 rfl (lv_at hl 2 rfl) ?_
        refine gM_60 hx hb hts hown hK hI dX4_isMet_19 ?_
        refine lv_iload hx hb dX4_isMet_22 (lv_at hl 0 rfl) ?_
        refine lM_20 hx hb hK hI (vp_in_nI (by omega) (by decide)) dX4_isMet_24 ?_
        refine lv_iconst (v := 1) hx hb dX4_isMet_25 (by decide) ?_
        refine lv_icmp_ne (tgt := 60) hx hb dX4_isMet_26 (by decide) (fun c7 => ?_) (fun c7 => ?_)
        · refine lv_iconst (v := 0) hx hb dX4_isMet_60 (by decide) ?_
          have eb8 : (0 : Int32) = bI ((¬ (a1 = 0)) ∨ (((S.1 20 (nI n).toNatClampNeg) = 1) ∧ (((S.1 21 (nI n).toNatClampNeg) = up) ∧ (¬ ((S.1 22 (nI n).toNatClampNeg) = (S.1 22 uv.toNatClampNeg)))))) := (bI_f (fun k => k.elim (fun z => z c5) (fun k => c7 k.1))).symm
          rw [eb8]
          exact hJ3
        · refine lv_aload_n hx hb dX4_isMet_29 rfl (lv_at hl 2 rfl) ?_
          refine gM_63 hx hb hts hown hK hI dX4_isMet_30 ?_
          refine lv_iload hx hb dX4_isMet_33 (lv_at hl 0 rfl) ?_
          refine lM_21 hx hb hK hI (vp_in_nI (by omega) (by decide)) dX4_isMet_35 ?_
          refine lv_iload_n hx hb dX4_isMet_36 rfl (lv_at hl 4 rfl) ?_
          refine lv_icmp_ne (tgt := 60) hx hb dX4_isMet_37 (by decide) (fun c9 => ?_) (fun c9 => ?_)
          · refine lv_iconst (v := 0) hx hb dX4_isMet_60 (by decide) ?_
            have eb10 : (0 : Int32) = bI ((¬ (a1 = 0)) ∨ (((S.1 20 (nI n).toNatClampNeg) = 1) ∧ (((S.1 21 (nI n).toNatClampNeg) = up) ∧ (¬ ((S.1 22 (nI n).toNatClampNeg) = (S.1 22 uv.toNatClampNeg)))))) := (bI_f (fun k => k.elim (fun z => z c5) (fun k => (fun k => c9 k.1) k.2))).symm
            rw [eb10]
            exact hJ3
          · refine lv_aload_n hx hb dX4_isMet_40 rfl (lv_at hl 2 rfl) ?_
            refine gM_66 hx hb hts hown hK hI dX4_isMet_41 ?_
            refine lv_iload hx hb dX4_isMet_44 (lv_at hl 0 rfl) ?_
            refine lM_22 hx hb hK hI (vp_in_nI (by omega) (by decide)) dX4_isMet_46 ?_
            refine lv_aload_n hx hb dX4_isMet_47 rfl (lv_at hl 2 rfl) ?_
            refine gM_66 hx hb hts hown hK hI dX4_isMet_48 ?_
            refine lv_iload_n hx hb dX4_isMet_51 rfl (lv_at hl 3 rfl) ?_
            refine lM_22 hx hb hK hI hv dX4_isMet_52 ?_
            refine lv_icmp_eq (tgt := 60) hx hb dX4_isMet_53 (by decide) (fun c11 => ?_) (fun c11 => ?_)
            · refine lv_iconst (v := 0) hx hb dX4_isMet_60 (by decide) ?_
              have eb12 : (0 : Int32) = bI ((¬ (a1 = 0)) ∨ (((S.1 20 (nI n).toNatClampNeg) = 1) ∧ (((S.1 21 (nI n).toNatClampNeg) = up) ∧ (¬ ((S.1 22 (nI n).toNatClampNeg) = (S.1 22 uv.toNatClampNeg)))))) := (bI_f (fun k => k.elim (fun z => z c5) (fun k => (fun k => (fun k => k c11) k.2) k.2))).symm
              rw [eb12]
              exact hJ3
            · refine lv_iconst (v := 1) hx hb dX4_isMet_56 (by decide) ?_
              refine lv_goto (tgt := 61) hx hb dX4_isMet_57 (by decide) ?_
              have eb13 : (1 : Int32) = bI ((¬ (a1 = 0)) ∨ (((S.1 20 (nI n).toNatClampNeg) = 1) ∧ (((S.1 21 (nI n).toNatClampNeg) = up) ∧ (¬ ((S.1 22 (nI n).toNatClampNeg) = (S.1 22 uv.toNatClampNeg)))))) := (bI_t (Or.inr ⟨c7, ⟨c9, c11⟩⟩)).symm
              rw [eb13]
              exact hJ3
  exact hL2 nv 0 (by omega) 0 0 H locs ls nI_0.symm rfl hI (lv_sub hl [0, 1, 2, 3, 4] rfl)

def M_many_s (S : MS) (up : Int32) (n : Nat) (a1 : Int32) : Int32 :=
  let x4 := (nI n) + 1
  a1 + (bI (((S.1 20 (nI n).toNatClampNeg) = 1) ∧ ((S.1 21 (nI n).toNatClampNeg) = up)))
def M_many_f (S : MS) (up : Int32) : Nat → Int32
  | 0 => 0
  | n + 1 => M_many_s S up n (M_many_f S up n)

def M_many (S : MS) (up : Int32) : Int32 :=
  let a1 := M_many_f S up (S.1 16 0).toNatClampNeg
  a1
set_option maxHeartbeats 4000000 in
set_option maxRecDepth 100000 in
theorem cM_many (G : GX) (ad : Nat → Nat) (S : MS) (up : Int32) {np nv : Nat} (hN : MNn S np nv) : FC G yX4_many cX4_many 4 (some .int) ({ frames := 0, cells := 0, slots := 0, locals := 0 }) [.ref (ad 0), .int up] (mW G.2.2.2 ad S) (pv (.int (M_many S up)) (mW G.2.2.2 ad S)) := by
  refine FC.go (lv := [(0, .ref (ad 0)), (1, .int up)]) (by decide) (Nat.le_of_ble_eq_true rfl) rfl (fun p e s m args below meth c A H locs ls Q hx hb hr hts hown hml hlocks hnm hK hE hI hA hl hQ => ?_)
  have hown : s.vm.findClass RX4 = some m.cls := hown
  have hv16 := hN.2.2.2
  refine lv_iconst (v := 0) hx hb dX4_many_0 (by decide) ?_
  refine lv_istore_n (lv' := [(2, .int 0), (0, .ref (ad 0)), (1, .int up)]) hx hb dX4_many_1 rfl hl (by decide) rfl (fun ls hl => ?_)
  refine lv_iconst (v := 0) hx hb dX4_many_2 (by decide) ?_
  refine lv_istore_n (lv' := [(3, .int 0), (2, .int 0), (0, .ref (ad 0)), (1, .int up)]) hx hb dX4_many_3 rfl hl (by decide) rfl (fun ls hl => ?_)
  have hL2 : ∀ (k n : Nat), n + k = nv → ∀ (i_ : Int32) (a1 : Int32) (H : Heap) (locs : List Loc) (ls : Array Slot), (i_ = nI n) → (a1 = M_many_f S up n) → (fI G.2.2.1 A s.heap (mW G.2.2.2 ad S) H locs) → (lv_has ls 4 [(3, .int i_), (2, .int a1), (0, .ref (ad 0)), (1, .int up)]) → W p G.1 e ({ frames := 0, cells := 0, slots := 0, locals := 0 }) s m args below meth c H locs 0 0 Q (F0 m 4 ls []) := by
    intro k
    induction k with
    | zero =>
      intro n hnk i_ a1 H locs ls ei ea1 hI hl
      subst ei
      refine lv_iload_n hx hb dX4_many_4 rfl (lv_at hl 0 rfl) ?_
      refine lv_aload_n hx hb dX4_many_5 rfl (lv_at hl 2 rfl) ?_
      refine gM_98 hx hb hts hown hK hI dX4_many_6 ?_
      refine lv_icmp_ge (tgt := 46) hx hb dX4_many_9 (by decide) (fun _ => ?_) (fun h => absurd (by rw [hN.2.2.1]; exact nI_le (by omega) (by omega)) h)
      have hn9 : n = (S.1 16 0).toNatClampNeg := by rw [hN.2.2.1, nI_clamp (by omega)]; omega
      rw [hn9] at ea1
      have hl : lv_has ls 4 [(2, .int a1), (0, .ref (ad 0)), (1, .int up)] := lv_sub hl [1, 2, 3] rfl
      refine lv_iload_n hx hb dX4_many_46 rfl (lv_at hl 0 rfl) ?_
      have HE : M_many S up = a1 := by subst ea1; exact rfl
      exact rt_i hx hb hr hlocks hI hA hQ ⟨by rw [HE], rfl⟩ (Nat.zero_le _) (Nat.zero_le _) dX4_many_47
    | succ k ih =>
      intro n hnk i_ a1 H locs ls ei ea1 hI hl
      subst ei
      refine lv_iload_n hx hb dX4_many_4 rfl (lv_at hl 0 rfl) ?_
      refine lv_aload_n hx hb dX4_many_5 rfl (lv_at hl 2 rfl) ?_
      refine gM_98 hx hb hts hown hK hI dX4_many_6 ?_
      refine lv_icmp_ge (tgt := 46) hx hb dX4_many_9 (by decide) (fun h => absurd h (by rw [hN.2.2.1]; exact nI_ge (by omega) (by omega))) (fun _ => ?_)
      refine lv_iload_n hx hb dX4_many_12 rfl (lv_at hl 1 rfl) ?_
      refine lv_aload_n hx hb dX4_many_13 rfl (lv_at hl 2 rfl) ?_
      refine gM_60 hx hb hts hown hK hI dX4_many_14 ?_
      refine lv_iload_n hx hb dX4_many_17 rfl (lv_at hl 0 rfl) ?_
      refine lM_20 hx hb hK hI (vp_in_nI (by omega) (by decide)) dX4_many_18 ?_
      refine lv_iconst (v := 1) hx hb dX4_many_19 (by decide) ?_
      have hJ3 : W p G.1 e ({ frames := 0, cells := 0, slots := 0, locals := 0 }) s m args below meth c H locs 0 0 Q (F0 m 38 ls [.int (bI (((S.1 20 (nI n).toNatClampNeg) = 1) ∧ ((S.1 21 (nI n).toNatClampNeg) = up))), .int a1]) := by
        refine lv_iadd hx hb dX4_many_38 ?_
        refine lv_istore_n (lv' := [(2, .int (a1 + (bI (((S.1 20 (nI n).toNatClampNeg) = 1) ∧ ((S.1 21 (nI n).toNatClampNeg) = up))))), (3, .int (nI n)), (0, .ref (ad 0)), (1, .int up)]) hx hb dX4_many_39 rfl hl (by decide) rfl (fun ls hl => ?_)
        obtain ⟨x4, ex4⟩ : ∃ z : Int32, z = (nI n) + 1 := ⟨_, rfl⟩
        refine lv_iinc (v := x4) (lv' := [(3, .int x4), (2, .int (a1 + (bI (((S.1 20 (nI n).toNatClampNeg) = 1) ∧ ((S.1 21 (nI n).toNatClampNeg) = up))))), (0, .ref (ad 0)), (1, .int up)]) hx hb dX4_many_40 hl (k := 1) rfl (by rw [ex4]; rfl) (by decide) rfl (fun ls hl => ?_)
        refine lv_goto (tgt := 4) hx hb dX4_many_43 (by decide) ?_
        have HE : M_many_s S up n a1 = a1 + (bI (((S.1 20 (nI n).toNatClampNeg) = 1) ∧ ((S.1 21 (nI n).toNatClampNeg) = up))) := by subst ex4; exact rfl
        exact ih (n + 1) (by omega) x4 (a1 + (bI (((S.1 20 (nI n).toNatClampNeg) = 1) ∧ ((S.1 21 (nI n).toNatClampNeg) = up)))) H locs ls (by rw [ex4]; exact nI_1 n) (by show _ = M_many_s S up n (M_many_f S up n); rw [← ea1]; exact HE.symm) hI (lv_sub hl [0, 1, 2, 3] rfl)
      refine lv_icmp_ne (tgt := 37) hx hb dX4_many_20 (by decide) (fun c5 => ?_) (fun c5 => ?_)
      · refine lv_iconst (v := 0) hx hb dX4_many_37 (by decide) ?_
        have eb6 : (0 : Int32) = bI (((S.1 20 (nI n).toNatClampNeg) = 1) ∧ ((S.1 21 (nI n).toNatClampNeg) = up)) := (bI_f (fun k => c5 k.1)).symm
        rw [eb6]
        exact hJ3
      · refine lv_aload_n hx hb dX4_many_23 rfl (lv_at hl 2 rfl) ?_
        refine gM_63 hx hb hts hown hK hI dX4_many_24 ?_
        refine lv_iload_n hx hb dX4_many_27 rfl (lv_at hl 0 rfl) ?_
        refine lM_21 hx hb hK hI (vp_in_nI (by omega) (by decide)) dX4_many_28 ?_
        refine lv_iload_n hx hb dX4_many_29 rfl (lv_at hl 3 rfl) ?_
        refine lv_icmp_ne (tgt := 37) hx hb dX4_many_30 (by decide) (fun c7 => ?_) (fun c7 => ?_)
        · refine lv_iconst (v := 0) hx hb dX4_many_37 (by decide) ?_
          have eb8 : (0 : Int32) = bI (((S.1 20 (nI n).toNatClampNeg) = 1) ∧ ((S.1 21 (nI n).toNatClampNeg) = up)) := (bI_f (fun k => c7 k.2)).symm
          rw [eb8]
          exact hJ3
        · refine lv_iconst (v := 1) hx hb dX4_many_33 (by decide) ?_
          refine lv_goto (tgt := 38) hx hb dX4_many_34 (by decide) ?_
          have eb9 : (1 : Int32) = bI (((S.1 20 (nI n).toNatClampNeg) = 1) ∧ ((S.1 21 (nI n).toNatClampNeg) = up)) := (bI_t ⟨c5, c7⟩).symm
          rw [eb9]
          exact hJ3
  exact hL2 nv 0 (by omega) 0 0 H locs ls nI_0.symm rfl hI (lv_sub hl [0, 1, 2, 3] rfl)

def M_carried_s (S : MS) (ug ub : Int32) (n : Nat) (a1 : Int32) : Int32 :=
  let x3 := if (S.1 25 (nI n).toNatClampNeg) = ug then (if (bI ((S.1 20 (nI n).toNatClampNeg) = 4)) = ub then (S.1 24 (nI n).toNatClampNeg) else 0) else 0
  let x5 := (nI n) + 1
  a1 + x3
def M_carried_f (S : MS) (ug ub : Int32) : Nat → Int32
  | 0 => 0
  | n + 1 => M_carried_s S ug ub n (M_carried_f S ug ub n)

def M_carried (S : MS) (ug : Int32) (ub : Int32) : Int32 :=
  let a1 := M_carried_f S ug ub (S.1 16 0).toNatClampNeg
  a1
set_option maxHeartbeats 4000000 in
set_option maxRecDepth 100000 in
theorem cM_carried (G : GX) (ad : Nat → Nat) (S : MS) (ug : Int32) (ub : Int32) {np nv : Nat} (hN : MNn S np nv) : FC G yX4_carried cX4_carried 5 (some .int) ({ frames := 0, cells := 0, slots := 0, locals := 0 }) [.ref (ad 0), .int ug, .int ub] (mW G.2.2.2 ad S) (pv (.int (M_carried S ug ub)) (mW G.2.2.2 ad S)) := by
  refine FC.go (lv := [(0, .ref (ad 0)), (1, .int ug), (2, .int ub)]) (by decide) (Nat.le_of_ble_eq_true rfl) rfl (fun p e s m args below meth c A H locs ls Q hx hb hr hts hown hml hlocks hnm hK hE hI hA hl hQ => ?_)
  have hown : s.vm.findClass RX4 = some m.cls := hown
  have hv16 := hN.2.2.2
  refine lv_iconst (v := 0) hx hb dX4_carried_0 (by decide) ?_
  refine lv_istore_n (lv' := [(3, .int 0), (0, .ref (ad 0)), (1, .int ug), (2, .int ub)]) hx hb dX4_carried_1 rfl hl (by decide) rfl (fun ls hl => ?_)
  refine lv_iconst (v := 0) hx hb dX4_carried_2 (by decide) ?_
  refine lv_istore (lv' := [(4, .int 0), (3, .int 0), (0, .ref (ad 0)), (1, .int ug), (2, .int ub)]) hx hb dX4_carried_3 hl (by decide) rfl (fun ls hl => ?_)
  have hL2 : ∀ (k n : Nat), n + k = nv → ∀ (i_ : Int32) (a1 : Int32) (H : Heap) (locs : List Loc) (ls : Array Slot), (i_ = nI n) → (a1 = M_carried_f S ug ub n) → (fI G.2.2.1 A s.heap (mW G.2.2.2 ad S) H locs) → (lv_has ls 5 [(4, .int i_), (3, .int a1), (0, .ref (ad 0)), (1, .int ug), (2, .int ub)]) → W p G.1 e ({ frames := 0, cells := 0, slots := 0, locals := 0 }) s m args below meth c H locs 0 0 Q (F0 m 5 ls []) := by
    intro k
    induction k with
    | zero =>
      intro n hnk i_ a1 H locs ls ei ea1 hI hl
      subst ei
      refine lv_iload hx hb dX4_carried_5 (lv_at hl 0 rfl) ?_
      refine lv_aload_n hx hb dX4_carried_7 rfl (lv_at hl 2 rfl) ?_
      refine gM_98 hx hb hts hown hK hI dX4_carried_8 ?_
      refine lv_icmp_ge (tgt := 65) hx hb dX4_carried_11 (by decide) (fun _ => ?_) (fun h => absurd (by rw [hN.2.2.1]; exact nI_le (by omega) (by omega)) h)
      have hn9 : n = (S.1 16 0).toNatClampNeg := by rw [hN.2.2.1, nI_clamp (by omega)]; omega
      rw [hn9] at ea1
      have hl : lv_has ls 5 [(3, .int a1), (0, .ref (ad 0)), (1, .int ug), (2, .int ub)] := lv_sub hl [1, 2, 3, 4] rfl
      refine lv_iload_n hx hb dX4_carried_65 rfl (lv_at hl 0 rfl) ?_
      have HE : M_carried S ug ub = a1 := by subst ea1; exact rfl
      exact rt_i hx hb hr hlocks hI hA hQ ⟨by rw [HE], rfl⟩ (Nat.zero_le _) (Nat.zero_le _) dX4_carried_66
    | succ k ih =>
      intro n hnk i_ a1 H locs ls ei ea1 hI hl
      subst ei
      refine lv_iload hx hb dX4_carried_5 (lv_at hl 0 rfl) ?_
      refine lv_aload_n hx hb dX4_carried_7 rfl (lv_at hl 2 rfl) ?_
      refine gM_98 hx hb hts hown hK hI dX4_carried_8 ?_
      refine lv_icmp_ge (tgt := 65) hx hb dX4_carried_11 (by decide) (fun h => absurd h (by rw [hN.2.2.1]; exact nI_ge (by omega) (by omega))) (fun _ => ?_)
      refine lv_iload_n hx hb dX4_carried_14 rfl (lv_at hl 1 rfl) ?_
      refine lv_aload_n hx hb dX4_carried_15 rfl (lv_at hl 2 rfl) ?_
      refine gM_76 hx hb hts hown hK hI dX4_carried_16 ?_
      refine lv_iload hx hb dX4_carried_19 (lv_at hl 0 rfl) ?_
      refine lM_25 hx hb hK hI (vp_in_nI (by omega) (by decide)) dX4_carried_21 ?_
      refine lv_iload_n hx hb dX4_carried_22 rfl (lv_at hl 3 rfl) ?_
      have hJ4 : ∀ (x3 : Int32), (x3 = if (S.1 25 (nI n).toNatClampNeg) = ug then (if (bI ((S.1 20 (nI n).toNatClampNeg) = 4)) = ub then (S.1 24 (nI n).toNatClampNeg) else 0) else 0) → W p G.1 e ({ frames := 0, cells := 0, slots := 0, locals := 0 }) s m args below meth c H locs 0 0 Q (F0 m 57 ls [.int x3, .int a1]) := by
        intro x3 ex3
        refine lv_iadd hx hb dX4_carried_57 ?_
        refine lv_istore_n (lv' := [(3, .int (a1 + x3)), (4, .int (nI n)), (0, .ref (ad 0)), (1, .int ug), (2, .int ub)]) hx hb dX4_carried_58 rfl hl (by decide) rfl (fun ls hl => ?_)
        obtain ⟨x5, ex5⟩ : ∃ z : Int32, z = (nI n) + 1 := ⟨_, rfl⟩
        refine lv_iinc (v := x5) (lv' := [(4, .int x5), (3, .int (a1 + x3)), (0, .ref (ad 0)), (1, .int ug), (2, .int ub)]) hx hb dX4_carried_59 hl (k := 1) rfl (by rw [ex5]; rfl) (by decide) rfl (fun ls hl => ?_)
        refine lv_goto (tgt := 5) hx hb dX4_carried_62 (by decide) ?_
        have HE : M_carried_s S ug ub n a1 = a1 + x3 := by subst ex5 ex3; exact rfl
        exact ih (n + 1) (by omega) x5 (a1 + x3) H locs ls (by rw [ex5]; exact nI_1 n) (by show _ = M_carried_s S ug ub n (M_carried_f S ug ub n); rw [← ea1]; exact HE.symm) hI (lv_sub hl [0, 1, 2, 3, 4] rfl)
      refine lv_icmp_ne (tgt := 56) hx hb dX4_carried_23 (by decide) (fun c6 => ?_) (fun c6 => ?_)
      · refine lv_iconst (v := 0) hx hb dX4_carried_56 (by decide) ?_
        exact hJ4 0 (by exact (if_neg c6).symm)
      · refine lv_aload_n hx hb dX4_carried_26 rfl (lv_at hl 2 rfl) ?_
        refine gM_60 hx hb hts hown hK hI dX4_carried_27 ?_
        refine lv_iload hx hb dX4_carried_30 (lv_at hl 0 rfl) ?_
        refine lM_20 hx hb hK hI (vp_in_nI (by omega) (by decide)) dX4_carried_32 ?_
        refine lv_iconst (v := 4) hx hb dX4_carried_33 (by decide) ?_
        have hJ7 : W p G.1 e ({ frames := 0, cells := 0, slots := 0, locals := 0 }) s m args below meth c H locs 0 0 Q (F0 m 42 ls [.int (bI ((S.1 20 (nI n).toNatClampNeg) = 4)), .int a1]) := by
          refine lv_iload_n hx hb dX4_carried_42 rfl (lv_at hl 4 rfl) ?_
          refine lv_icmp_ne (tgt := 56) hx hb dX4_carried_43 (by decide) (fun c8 => ?_) (fun c8 => ?_)
          · refine lv_iconst (v := 0) hx hb dX4_carried_56 (by decide) ?_
            exact hJ4 0 (by exact ((if_pos c6).trans (if_neg c8)).symm)
          · refine lv_aload_n hx hb dX4_carried_46 rfl (lv_at hl 2 rfl) ?_
            refine gM_73 hx hb hts hown hK hI dX4_carried_47 ?_
            refine lv_iload hx hb dX4_carried_50 (lv_at hl 0 rfl) ?_
            refine lM_24 hx hb hK hI (vp_in_nI (by omega) (by decide)) dX4_carried_52 ?_
            refine lv_goto (tgt := 57) hx hb dX4_carried_53 (by decide) ?_
            exact hJ4 (S.1 24 (nI n).toNatClampNeg) (by exact ((if_pos c6).trans (if_pos c8)).symm)
        refine lv_icmp_ne (tgt := 41) hx hb dX4_carried_34 (by decide) (fun c9 => ?_) (fun c9 => ?_)
        · refine lv_iconst (v := 0) hx hb dX4_carried_41 (by decide) ?_
          have eb10 : (0 : Int32) = bI ((S.1 20 (nI n).toNatClampNeg) = 4) := (bI_f c9).symm
          rw [eb10]
          exact hJ7
        · refine lv_iconst (v := 1) hx hb dX4_carried_37 (by decide) ?_
          refine lv_goto (tgt := 42) hx hb dX4_carried_38 (by decide) ?_
          have eb11 : (1 : Int32) = bI ((S.1 20 (nI n).toNatClampNeg) = 4) := (bI_t c9).symm
          rw [eb11]
          exact hJ7
  exact hL2 nv 0 (by omega) 0 0 H locs ls nI_0.symm rfl hI (lv_sub hl [0, 1, 2, 3, 4] rfl)
