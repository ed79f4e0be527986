def M_passes_s (S8 : MS) (n : Nat) : MS :=
  let S10 := if (S8.1 20 (nI n).toNatClampNeg) = 1 then (if (S8.1 0 0) < (S8.1 23 (nI n).toNatClampNeg) then S8 else (M_leaves S8 (nI n))) else S8
  let S15 := if (S10.1 20 (nI n).toNatClampNeg) = 2 then (if (M_against S10 (nI n)) = 0 then (M_comes S10 (nI n)) else S10) else S10
  let x20 := (nI n) + 1
  S15
def M_passes_f (S : MS) : Nat → MS
  | 0 => S
  | n + 1 => M_passes_s (M_passes_f S n) n

def M_passes (S : MS) : MS :=
  let S1 := mset S 0 0 ((S.1 0 0) + 1)
  let S2 := if ((S1.1 0 0) - (S1.1 0 0) / 1440 * 1440) = 0 then (M_ends S1) else S1
  let S8 := M_passes_f S2 (S2.1 16 0).toNatClampNeg
  S8
theorem MI_passes_s {S : MS} {np nv t n : Nat} (h : MI S np nv t) (hn : n < nv) : MI (M_passes_s S n) np nv t := by
  unfold M_passes_s
  dsimp only
  have h1 : MI (if S.1 20 (nI n).toNatClampNeg = 1 then (if S.1 0 0 < S.1 23 (nI n).toNatClampNeg then S else M_leaves S (nI n)) else S) np nv t := by
    by_cases c1 : S.1 20 (nI n).toNatClampNeg = 1
    · rw [if_pos c1]
      by_cases c2 : S.1 0 0 < S.1 23 (nI n).toNatClampNeg
      · rw [if_pos c2]; exact h
      · rw [if_neg c2]; exact MI_leaves h hn c1
    · rw [if_neg c1]; exact h
  generalize (if S.1 20 (nI n).toNatClampNeg = 1 then (if S.1 0 0 < S.1 23 (nI n).toNatClampNeg then S else M_leaves S (nI n)) else S) = S1 at h1 ⊢
  by_cases c1 : S1.1 20 (nI n).toNatClampNeg = 2
  · rw [if_pos c1]
    by_cases c2 : M_against S1 (nI n) = 0
    · rw [if_pos c2]; exact MI_comes h1 hn c1
    · rw [if_neg c2]; exact h1
  · rw [if_neg c1]; exact h1
theorem MI_passes_f {S : MS} {np nv t n : Nat} (h : MI S np nv t) (hn : n ≤ nv) : MI (M_passes_f S n) np nv t := by
  induction n with
  | zero => exact h
  | succ n ih => exact MI_passes_s (ih (by omega)) (by omega)
set_option maxHeartbeats 4000000 in
set_option maxRecDepth 100000 in
theorem cM_passes (G : GX) (ad : Nat → Nat) (S : MS) {np nv t : Nat} (hM : MI S np nv t) : FC G yX4_passes cX4_passes 2 none ({ frames := 4, cells := 0, slots := 0, locals := 96 }) [.ref (ad 0)] (mW G.2.2.2 ad S) (p0 (mW G.2.2.2 ad (M_passes S))) := by
  refine FC.go (lv := [(0, .ref (ad 0))]) (by decide) (Nat.le_of_ble_eq_true rfl) rfl (fun p e s m args below meth c A H locs ls Q hx hb hr hts hown hml hlocks hnm hK hE hI hA hl hQ => ?_)
  have hown : s.vm.findClass RX4 = some m.cls := hown
  have hN := hM.1
  have hG := hM.2.1
  have hv16 := hM.1.2.2.2
  have hp10 := hM.1.2.1
  refine lv_aload_n hx hb dX4_passes_0 rfl (lv_at hl 0 rfl) ?_
  refine lv_dup hx hb dX4_passes_1 rfl ?_
  refine gM_167 hx hb hts hown hK hI dX4_passes_2 ?_
  refine lv_iconst (v := 1) hx hb dX4_passes_5 (by decide) ?_
  refine lv_iadd hx hb dX4_passes_6 ?_
  obtain ⟨S1, eS1⟩ : ∃ z : MS, z = mset S 0 0 ((S.1 0 0) + 1) := ⟨_, rfl⟩
  refine pM_167 hx hb hts hown hK hI eS1 dX4_passes_7 (fun H locs hI => ?_)
  refine lv_aload_n hx hb dX4_passes_10 rfl (lv_at hl 0 rfl) ?_
  refine gM_167 hx hb hts hown hK hI dX4_passes_11 ?_
  refine lv_sipush (v := 1440) hx hb dX4_passes_14 (by decide) ?_
  refine lv_irem hx hb dX4_passes_17 (by decide) ?_
  have hJ6 : ∀ (S2 : MS) (H : Heap) (locs : List Loc), (S2 = if ((S1.1 0 0) - (S1.1 0 0) / 1440 * 1440) = 0 then (M_ends S1) else S1) → (fI G.2.2.1 A s.heap (mW G.2.2.2 ad S2) H locs) → (MI S2 np nv t) → (MNn S2 np nv) → (GI S2) → W p G.1 e ({ frames := 4, cells := 0, slots := 0, locals := 96 }) s m args below meth c H locs 0 0 Q (F0 m 25 ls []) := by
    intro S2 H locs eS2 hI hf3 hf4 hf5
    refine lv_iconst (v := 0) hx hb dX4_passes_25 (by decide) ?_
    refine lv_istore_n (lv' := [(1, .int 0), (0, .ref (ad 0))]) hx hb dX4_passes_26 rfl hl (by decide) rfl (fun ls hl => ?_)
    have hL9 : ∀ (k n : Nat), n + k = nv → ∀ (i_ : Int32) (S8 : MS) (H : Heap) (locs : List Loc) (ls : Array Slot), (i_ = nI n) → (S8 = M_passes_f S2 n) → (fI G.2.2.1 A s.heap (mW G.2.2.2 ad S8) H locs) → (lv_has ls 2 [(1, .int i_), (0, .ref (ad 0))]) → W p G.1 e ({ frames := 4, cells := 0, slots := 0, locals := 96 }) s m args below meth c H locs 0 0 Q (F0 m 27 ls []) := by
      intro k
      induction k with
      | zero =>
        intro n hnk i_ S8 H locs ls ei eS8 hI hl
        subst ei
        have hM2 : MI S8 np nv t := by rw [eS8]; exact MI_passes_f hf3 (by omega)
        have hv16 := hM2.1.2.2.2
        have hp10 := hM2.1.2.1
        refine lv_iload_n hx hb dX4_passes_27 rfl (lv_at hl 0 rfl) ?_
        refine lv_aload_n hx hb dX4_passes_28 rfl (lv_at hl 1 rfl) ?_
        refine gM_98 hx hb hts hown hK hI dX4_passes_29 ?_
        refine lv_icmp_ge (tgt := 92) hx hb dX4_passes_32 (by decide) (fun _ => ?_) (fun h => absurd (by rw [hM2.1.2.2.1]; exact nI_le (by omega) (by omega)) h)
        have hn9 : n = (S2.1 16 0).toNatClampNeg := by rw [(hf3).1.2.2.1, nI_clamp (by omega)]; omega
        rw [hn9] at eS8
        have hl : lv_has ls 2 [(0, .ref (ad 0))] := lv_sub hl [1] rfl
        have HE : M_passes S = S8 := by subst eS8 eS2 eS1; exact rfl
        exact rt_v hx hb hr hlocks hI hA hQ ⟨rfl, by rw [HE]⟩ (Nat.zero_le _) (Nat.zero_le _) dX4_passes_92
      | succ k ih =>
        intro n hnk i_ S8 H locs ls ei eS8 hI hl
        subst ei
        have hM2 : MI S8 np nv t := by rw [eS8]; exact MI_passes_f hf3 (by omega)
        have hv16 := hM2.1.2.2.2
        have hp10 := hM2.1.2.1
        refine lv_iload_n hx hb dX4_passes_27 rfl (lv_at hl 0 rfl) ?_
        refine lv_aload_n hx hb dX4_passes_28 rfl (lv_at hl 1 rfl) ?_
        refine gM_98 hx hb hts hown hK hI dX4_passes_29 ?_
        refine lv_icmp_ge (tgt := 92) hx hb dX4_passes_32 (by decide) (fun h => absurd h (by rw [hM2.1.2.2.1]; exact nI_ge (by omega) (by omega))) (fun _ => ?_)
        refine lv_aload_n hx hb dX4_passes_35 rfl (lv_at hl 1 rfl) ?_
        refine gM_60 hx hb hts hown hK hI dX4_passes_36 ?_
        refine lv_iload_n hx hb dX4_passes_39 rfl (lv_at hl 0 rfl) ?_
        refine lM_20 hx hb hK hI (vp_in_nI (by omega) (by decide)) dX4_passes_40 ?_
        refine lv_iconst (v := 1) hx hb dX4_passes_41 (by decide) ?_
        have hJ14 : ∀ (S10 : MS) (H : Heap) (locs : List Loc), (S10 = if (S8.1 20 (nI n).toNatClampNeg) = 1 then (if (S8.1 0 0) < (S8.1 23 (nI n).toNatClampNeg) then S8 else (M_leaves S8 (nI n))) else S8) → (fI G.2.2.1 A s.heap (mW G.2.2.2 ad S10) H locs) → (MI S10 np nv t) → (MNn S10 np nv) → (GI S10) → W p G.1 e ({ frames := 4, cells := 0, slots := 0, locals := 96 }) s m args below meth c H locs 0 0 Q (F0 m 63 ls []) := by
          intro S10 H locs eS10 hI hf11 hf12 hf13
          refine lv_aload_n hx hb dX4_passes_63 rfl (lv_at hl 1 rfl) ?_
          refine gM_60 hx hb hts hown hK hI dX4_passes_64 ?_
          refine lv_iload_n hx hb dX4_passes_67 rfl (lv_at hl 0 rfl) ?_
          refine lM_20 hx hb hK hI (vp_in_nI (by omega) (by decide)) dX4_passes_68 ?_
          refine lv_iconst (v := 2) hx hb dX4_passes_69 (by decide) ?_
          have hJ19 : ∀ (S15 : MS) (H : Heap) (locs : List Loc), (S15 = if (S10.1 20 (nI n).toNatClampNeg) = 2 then (if (M_against S10 (nI n)) = 0 then (M_comes S10 (nI n)) else S10) else S10) → (fI G.2.2.1 A s.heap (mW G.2.2.2 ad S15) H locs) → (MI S15 np nv t) → (MNn S15 np nv) → (GI S15) → W p G.1 e ({ frames := 4, cells := 0, slots := 0, locals := 96 }) s m args below meth c H locs 0 0 Q (F0 m 86 ls []) := by
            intro S15 H locs eS15 hI hf16 hf17 hf18
            obtain ⟨x20, ex20⟩ : ∃ z : Int32, z = (nI n) + 1 := ⟨_, rfl⟩
            refine lv_iinc (v := x20) (lv' := [(1, .int x20), (0, .ref (ad 0))]) hx hb dX4_passes_86 hl (k := 0) rfl (by rw [ex20]; rfl) (by decide) rfl (fun ls hl => ?_)
            refine lv_goto (tgt := 27) hx hb dX4_passes_89 (by decide) ?_
            have HE : M_passes_s S8 n = S15 := by subst ex20 eS15 eS10; exact rfl
            exact ih (n + 1) (by omega) x20 S15 H locs ls (by rw [ex20]; exact nI_1 n) (by show _ = M_passes_s (M_passes_f S2 n) n; rw [← eS8]; exact HE.symm) hI (lv_sub hl [0, 1] rfl)
          refine lv_icmp_ne (tgt := 86) hx hb dX4_passes_70 (by decide) (fun c21 => ?_) (fun c21 => ?_)
          · exact hJ19 S10 _ _ (by exact (if_neg c21).symm) hI hf11 hf12 hf13
          · refine lv_aload_n hx hb dX4_passes_73 rfl (lv_at hl 1 rfl) ?_
            refine lv_iload_n hx hb dX4_passes_74 rfl (lv_at hl 0 rfl) ?_
            refine cVv (rest := []) hx hb hml hts hown hK hE hI (cM_against G ad S10 (nI n) (vp_in_nI (by omega) (by decide)) (MI_q hf11 (by omega) c21) hf12) kM_190 ⟨Nat.le_of_ble_eq_true rfl, Nat.le_of_ble_eq_true rfl⟩ rfl rfl (kk := 4) (ii := 0) rfl rfl rfl hl.1 rfl (Nat.le_of_ble_eq_true rfl) dX4_passes_75 ⟨Nat.zero_le _, Nat.zero_le _⟩ (fun H locs hI => ?_)
            refine lv_if_ne (tgt := 86) hx hb dX4_passes_78 (by decide) (fun c22 => ?_) (fun c22 => ?_)
            · exact hJ19 S10 _ _ (by exact ((if_pos c21).trans (if_neg c22)).symm) hI hf11 hf12 hf13
            · refine lv_aload_n hx hb dX4_passes_81 rfl (lv_at hl 1 rfl) ?_
              refine lv_iload_n hx hb dX4_passes_82 rfl (lv_at hl 0 rfl) ?_
              obtain ⟨S23, eS23⟩ : ∃ z : MS, z = M_comes S10 (nI n) := ⟨_, rfl⟩
              refine cV0 (rest := []) hx hb hml hts hown hK hE hI (cM_comes G ad S10 (nI n) (vp_in_nI (by omega) (by decide)) (MI_q hf11 (by omega) c21) hf12 (MI_spd hf11 (by omega) c21)) kM_193 ⟨Nat.le_of_ble_eq_true rfl, Nat.le_of_ble_eq_true rfl⟩ rfl rfl (kk := 4) (ii := 0) rfl rfl rfl hl.1 rfl (Nat.le_of_ble_eq_true rfl) dX4_passes_83 ⟨Nat.zero_le _, Nat.zero_le _⟩ (fun H locs hI => ?_)
              rw [← eS23] at hI
              exact hJ19 S23 _ _ (by subst eS23; exact ((if_pos c21).trans (if_pos c22)).symm) hI (eS23 ▸ (MI_comes hf11 (by omega) c21)) (MI.N (eS23 ▸ (MI_comes hf11 (by omega) c21))) (MI.G (eS23 ▸ (MI_comes hf11 (by omega) c21)))
        refine lv_icmp_ne (tgt := 63) hx hb dX4_passes_42 (by decide) (fun c24 => ?_) (fun c24 => ?_)
        · exact hJ14 S8 _ _ (by exact (if_neg c24).symm) hI hM2 hM2.1 hM2.2.1
        · refine lv_aload_n hx hb dX4_passes_45 rfl (lv_at hl 1 rfl) ?_
          refine gM_70 hx hb hts hown hK hI dX4_passes_46 ?_
          refine lv_iload_n hx hb dX4_passes_49 rfl (lv_at hl 0 rfl) ?_
          refine lM_23 hx hb hK hI (vp_in_nI (by omega) (by decide)) dX4_passes_50 ?_
          refine lv_aload_n hx hb dX4_passes_51 rfl (lv_at hl 1 rfl) ?_
          refine gM_167 hx hb hts hown hK hI dX4_passes_52 ?_
          refine lv_icmp_gt (tgt := 63) hx hb dX4_passes_55 (by decide) (fun c25 => ?_) (fun c25 => ?_)
          · exact hJ14 S8 _ _ (by exact ((if_pos c24).trans (if_pos c25)).symm) hI hM2 hM2.1 hM2.2.1
          · refine lv_aload_n hx hb dX4_passes_58 rfl (lv_at hl 1 rfl) ?_
            refine lv_iload_n hx hb dX4_passes_59 rfl (lv_at hl 0 rfl) ?_
            obtain ⟨S26, eS26⟩ : ∃ z : MS, z = M_leaves S8 (nI n) := ⟨_, rfl⟩
            refine cV0 (rest := []) hx hb hml hts hown hK hE hI (cM_leaves G ad S8 (nI n) (vp_in_nI (by omega) (by decide)) (MI_pl hM2 (by omega) c24) hM2.2.1) kM_187 ⟨Nat.le_of_ble_eq_true rfl, Nat.le_of_ble_eq_true rfl⟩ rfl rfl (kk := 4) (ii := 0) rfl rfl rfl hl.1 rfl (Nat.le_of_ble_eq_true rfl) dX4_passes_60 ⟨Nat.zero_le _, Nat.zero_le _⟩ (fun H locs hI => ?_)
            rw [← eS26] at hI
            exact hJ14 S26 _ _ (by subst eS26; exact ((if_pos c24).trans (if_neg c25)).symm) hI (eS26 ▸ (MI_leaves hM2 (by omega) c24)) (MI.N (eS26 ▸ (MI_leaves hM2 (by omega) c24))) (MI.G (eS26 ▸ (MI_leaves hM2 (by omega) c24)))
    exact hL9 nv 0 (by omega) 0 S2 H locs ls nI_0.symm rfl hI (lv_sub hl [0, 1] rfl)
  refine lv_if_ne (tgt := 25) hx hb dX4_passes_18 (by decide) (fun c27 => ?_) (fun c27 => ?_)
  · exact hJ6 S1 _ _ (by exact (if_neg c27).symm) hI (MI_set hM (by decide) eS1) (MNn_set hN (by decide) (by decide) eS1) (GI_set hG (by decide) (by decide) eS1)
  · refine lv_aload_n hx hb dX4_passes_21 rfl (lv_at hl 0 rfl) ?_
    obtain ⟨S28, eS28⟩ : ∃ z : MS, z = M_ends S1 := ⟨_, rfl⟩
    refine cV0 (rest := []) hx hb hml hts hown hK hE hI (cM_ends G ad S1 (MI_set hM (by decide) eS1)) kM_184 ⟨Nat.le_of_ble_eq_true rfl, Nat.le_of_ble_eq_true rfl⟩ rfl rfl (kk := 4) (ii := 0) rfl rfl rfl hl.1 rfl (Nat.le_of_ble_eq_true rfl) dX4_passes_22 ⟨Nat.zero_le _, Nat.zero_le _⟩ (fun H locs hI => ?_)
    rw [← eS28] at hI
    exact hJ6 S28 _ _ (by subst eS28; exact (if_pos c27).symm) hI (eS28 ▸ MI_ends (MI_set hM (by decide) eS1)) (MI.N (eS28 ▸ MI_ends (MI_set hM (by decide) eS1))) (MI.G (eS28 ▸ MI_ends (MI_set hM (by decide) eS1)))

theorem isIn_nI {S : MS} {x : Int32} (h : M_isIn S x 1 3000) : ∃ N : Nat, x = nI N ∧ N ≤ 3000 := by
  obtain ⟨h1, h2⟩ := h
  rw [Int32.lt_iff_toInt_lt] at h1 h2
  rw [show (1 : Int32).toInt = 1 by decide] at h1
  rw [show (3000 : Int32).toInt = 3000 by decide] at h2
  obtain ⟨n, e, -, h3⟩ := rng_nI (x := x) (a := 1) (b := 3000) ⟨by omega, by omega⟩
  exact ⟨n, e, h3⟩
theorem MI_passes {S : MS} {np nv t : Nat} (h : MI S np nv t) : MI (M_passes S) np nv t := by
  unfold M_passes
  dsimp only
  have h1 : MI (mset S 0 0 (S.1 0 0 + 1)) np nv t := MI_set h (by decide) rfl
  generalize mset S 0 0 (S.1 0 0 + 1) = S1 at h1 ⊢
  have h2 : MI (if S1.1 0 0 - S1.1 0 0 / 1440 * 1440 = 0 then M_ends S1 else S1) np nv t := ite_P (fun z => MI z np nv t) (MI_ends h1) h1
  generalize (if S1.1 0 0 - S1.1 0 0 / 1440 * 1440 = 0 then M_ends S1 else S1) = S2 at h2 ⊢
  have e : (S2.1 16 0).toNatClampNeg = nv := by rw [h2.1.2.2.1, nI_clamp (by have := h2.1.2.2.2; omega)]
  rw [e]
  exact MI_passes_f h2 (Nat.le_refl _)
def M_pass_s (S5 : MS) (n : Nat) : MS :=
  let S7 := M_passes S5
  let x8 := (nI n) + 1
  S7
def M_pass_f (S : MS) : Nat → MS
  | 0 => S
  | n + 1 => M_pass_s (M_pass_f S n) n

def M_pass (S : MS) (uk : Int32) : Int32 × MS :=
  if M_isIn S uk 1 3000 then
    if ((S.1 0 0) + uk) ≤ 200000 then
      let S3 := mset S 29 0 0
      let S5 := M_pass_f S3 uk.toNatClampNeg
      (S5.1 0 0, S5)
    else
      let S9 := mset S 29 0 2
      (0, S9)
  else
    let S10 := mset S 29 0 1
    (0, S10)
theorem MI_pass_f {S : MS} {np nv t n : Nat} (h : MI S np nv t) : MI (M_pass_f S n) np nv t := by
  induction n with
  | zero => exact h
  | succ n ih => exact MI_passes ih
set_option maxHeartbeats 4000000 in
set_option maxRecDepth 100000 in
theorem cM_pass (G : GX) (ad : Nat → Nat) (S : MS) (uk : Int32) {np nv t : Nat} (hM : MI S np nv t) : FC G yX4_pass cX4_pass 3 (some .int) ({ frames := 5, cells := 0, slots := 0, locals := 117 }) [.ref (ad 0), .int uk] (mW G.2.2.2 ad S) (pv (.int (M_pass S uk).1) (mW G.2.2.2 ad (M_pass S uk).2)) := by
  refine FC.go (lv := [(0, .ref (ad 0)), (1, .int uk)]) (by decide) (Nat.le_of_ble_eq_true rfl) rfl (fun p e s m args below meth c A H locs ls Q hx hb hr hts hown hml hlocks hnm hK hE hI hA hl hQ => ?_)
  have hown : s.vm.findClass RX4 = some m.cls := hown
  have hN := hM.1
  have hG := hM.2.1
  have hv16 := hM.1.2.2.2
  have hp10 := hM.1.2.1
  refine lv_aload_n hx hb dX4_pass_0 rfl (lv_at hl 0 rfl) ?_
  refine lv_iload_n hx hb dX4_pass_1 rfl (lv_at hl 1 rfl) ?_
  refine lv_iconst (v := 1) hx hb dX4_pass_2 (by decide) ?_
  refine lv_sipush (v := 3000) hx hb dX4_pass_3 (by decide) ?_
  refine cSv (rest := [.ref (ad 0)]) hx hb hml hts hown hK hE hI (cM_isIn G ad S uk 1 3000) kM_94 ⟨Nat.le_of_ble_eq_true rfl, Nat.le_of_ble_eq_true rfl⟩ rfl rfl hl.1 rfl (Nat.le_of_ble_eq_true rfl) dX4_pass_6 ⟨Nat.zero_le _, Nat.zero_le _⟩ (fun H locs hI => ?_)
  refine xb_ne (tgt := 16) hx hb dX4_pass_9 (by decide) (fun c1 => ?_) (fun c1 => ?_)
  · refine lv_aload_n hx hb dX4_pass_16 rfl (lv_at hl 0 rfl) ?_
    refine gM_167 hx hb hts hown hK hI dX4_pass_17 ?_
    refine lv_iload_n hx hb dX4_pass_20 rfl (lv_at hl 1 rfl) ?_
    refine lv_iadd hx hb dX4_pass_21 ?_
    refine lv_ldc (v := 200000) hx hb hown (hts _ q962) dX4_pass_22 ?_
    refine lv_icmp_le (tgt := 31) hx hb dX4_pass_24 (by decide) (fun c2 => ?_) (fun c2 => ?_)
    · refine lv_iconst (v := 0) hx hb dX4_pass_31 (by decide) ?_
      obtain ⟨S3, eS3⟩ : ∃ z : MS, z = mset S 29 0 0 := ⟨_, rfl⟩
      refine cVv (rest := []) hx hb hml hts hown hK hE hI (cM_fails0 G ad S) kM_101 ⟨Nat.le_of_ble_eq_true rfl, Nat.le_of_ble_eq_true rfl⟩ rfl rfl (kk := 4) (ii := 0) rfl rfl rfl hl.1 rfl (Nat.le_of_ble_eq_true rfl) dX4_pass_32 ⟨Nat.zero_le _, Nat.zero_le _⟩ (fun H locs hI => ?_)
      rw [← eS3] at hI
      refine lv_if_eq (tgt := 40) hx hb dX4_pass_35 (by decide) (fun _ => ?_) (fun h => absurd h (by decide))
      refine lv_iconst (v := 0) hx hb dX4_pass_40 (by decide) ?_
      refine lv_istore_n (lv' := [(2, .int 0), (0, .ref (ad 0)), (1, .int uk)]) hx hb dX4_pass_41 rfl hl (by decide) rfl (fun ls hl => ?_)
      obtain ⟨N, eN, hN9⟩ := isIn_nI c1
      have hL6 : ∀ (k n : Nat), n + k = N → ∀ (i_ : Int32) (S5 : MS) (H : Heap) (locs : List Loc) (ls : Array Slot), (i_ = nI n) → (S5 = M_pass_f S3 n) → (fI G.2.2.1 A s.heap (mW G.2.2.2 ad S5) H locs) → (lv_has ls 3 [(2, .int i_), (0, .ref (ad 0)), (1, .int uk)]) → W p G.1 e ({ frames := 5, cells := 0, slots := 0, locals := 117 }) s m args below meth c H locs 0 0 Q (F0 m 42 ls []) := by
        intro k
        induction k with
        | zero =>
          intro n hnk i_ S5 H locs ls ei eS5 hI hl
          subst ei
          have hM2 : MI S5 np nv t := by rw [eS5]; exact MI_pass_f (MI_set hM (by decide) eS3)
          refine lv_iload_n hx hb dX4_pass_42 rfl (lv_at hl 0 rfl) ?_
          refine lv_iload_n hx hb dX4_pass_43 rfl (lv_at hl 2 rfl) ?_
          refine lv_icmp_ge (tgt := 57) hx hb dX4_pass_44 (by decide) (fun _ => ?_) (fun h => absurd (by rw [eN]; exact nI_le (by omega) (by omega)) h)
          have hn9 : n = uk.toNatClampNeg := by rw [eN, nI_clamp (by omega)]; omega
          rw [hn9] at eS5
          have hl : lv_has ls 3 [(0, .ref (ad 0)), (1, .int uk)] := lv_sub hl [1, 2] rfl
          refine lv_aload_n hx hb dX4_pass_57 rfl (lv_at hl 0 rfl) ?_
          refine gM_167 hx hb hts hown hK hI dX4_pass_58 ?_
          have HE : M_pass S uk = (S5.1 0 0, S5) := by subst eS5 eS3; exact (if_pos c1).trans ((if_pos c2))
          exact rt_i hx hb hr hlocks hI hA hQ ⟨by rw [HE], by rw [HE]⟩ (Nat.zero_le _) (Nat.zero_le _) dX4_pass_61
        | succ k ih =>
          intro n hnk i_ S5 H locs ls ei eS5 hI hl
          subst ei
          have hM2 : MI S5 np nv t := by rw [eS5]; exact MI_pass_f (MI_set hM (by decide) eS3)
          refine lv_iload_n hx hb dX4_pass_42 rfl (lv_at hl 0 rfl) ?_
          refine lv_iload_n hx hb dX4_pass_43 rfl (lv_at hl 2 rfl) ?_
          refine lv_icmp_ge (tgt := 57) hx hb dX4_pass_44 (by decide) (fun h => absurd h (by rw [eN]; exact nI_ge (by omega) (by omega))) (fun _ => ?_)
          refine lv_aload_n hx hb dX4_pass_47 rfl (lv_at hl 1 rfl) ?_
          obtain ⟨S7, eS7⟩ : ∃ z : MS, z = M_passes S5 := ⟨_, rfl⟩
          refine cV0 (rest := []) hx hb hml hts hown hK hE hI (cM_passes G ad S5 hM2) kM_197 ⟨Nat.le_of_ble_eq_true rfl, Nat.le_of_ble_eq_true rfl⟩ rfl rfl (kk := 4) (ii := 0) rfl rfl rfl hl.1 rfl (Nat.le_of_ble_eq_true rfl) dX4_pass_48 ⟨Nat.zero_le _, Nat.zero_le _⟩ (fun H locs hI => ?_)
          rw [← eS7] at hI
          obtain ⟨x8, ex8⟩ : ∃ z : Int32, z = (nI n) + 1 := ⟨_, rfl⟩
          refine lv_iinc (v := x8) (lv' := [(2, .int x8), (0, .ref (ad 0)), (1, .int uk)]) hx hb dX4_pass_51 hl (k := 0) rfl (by rw [ex8]; rfl) (by decide) rfl (fun ls hl => ?_)
          refine lv_goto (tgt := 42) hx hb dX4_pass_54 (by decide) ?_
          have HE : M_pass_s S5 n = S7 := by subst ex8 eS7; exact rfl
          exact ih (n + 1) (by omega) x8 S7 H locs ls (by rw [ex8]; exact nI_1 n) (by show _ = M_pass_s (M_pass_f S3 n) n; rw [← eS5]; exact HE.symm) hI (lv_sub hl [0, 1, 2] rfl)
      exact hL6 N 0 (by omega) 0 S3 H locs ls nI_0.symm rfl hI (lv_sub hl [0, 1, 2] rfl)
    · refine lv_iconst (v := 2) hx hb dX4_pass_27 (by decide) ?_
      refine lv_goto (tgt := 32) hx hb dX4_pass_28 (by decide) ?_
      obtain ⟨S9, eS9⟩ : ∃ z : MS, z = mset S 29 0 2 := ⟨_, rfl⟩
      refine cVv (rest := []) hx hb hml hts hown hK hE hI (cM_fails2 G ad S) kM_101 ⟨Nat.le_of_ble_eq_true rfl, Nat.le_of_ble_eq_true rfl⟩ rfl rfl (kk := 4) (ii := 0) rfl rfl rfl hl.1 rfl (Nat.le_of_ble_eq_true rfl) dX4_pass_32 ⟨Nat.zero_le _, Nat.zero_le _⟩ (fun H locs hI => ?_)
      rw [← eS9] at hI
      refine lv_if_eq (tgt := 40) hx hb dX4_pass_35 (by decide) (fun h => absurd h (by decide)) (fun _ => ?_)
      refine lv_iconst (v := 0) hx hb dX4_pass_38 (by decide) ?_
      have HE : M_pass S uk = (0, S9) := by subst eS9; exact (if_pos c1).trans ((if_neg c2))
      exact rt_i hx hb hr hlocks hI hA hQ ⟨by rw [HE], by rw [HE]⟩ (Nat.zero_le _) (Nat.zero_le _) dX4_pass_39
  · refine lv_iconst (v := 1) hx hb dX4_pass_12 (by decide) ?_
    refine lv_goto (tgt := 32) hx hb dX4_pass_13 (by decide) ?_
    obtain ⟨S10, eS10⟩ : ∃ z : MS, z = mset S 29 0 1 := ⟨_, rfl⟩
    refine cVv (rest := []) hx hb hml hts hown hK hE hI (cM_fails1 G ad S) kM_101 ⟨Nat.le_of_ble_eq_true rfl, Nat.le_of_ble_eq_true rfl⟩ rfl rfl (kk := 4) (ii := 0) rfl rfl rfl hl.1 rfl (Nat.le_of_ble_eq_true rfl) dX4_pass_32 ⟨Nat.zero_le _, Nat.zero_le _⟩ (fun H locs hI => ?_)
    rw [← eS10] at hI
    refine lv_if_eq (tgt := 40) hx hb dX4_pass_35 (by decide) (fun h => absurd h (by decide)) (fun _ => ?_)
    refine lv_iconst (v := 0) hx hb dX4_pass_38 (by decide) ?_
    have HE : M_pass S uk = (0, S10) := by subst eS10; exact (if_neg c1)
    exact rt_i hx hb hr hlocks hI hA hQ ⟨by rw [HE], by rw [HE]⟩ (Nat.zero_le _) (Nat.zero_le _) dX4_pass_39

def M_bill_s (S1 : MS) (n : Nat) (a2 : Int64) : Int64 :=
  let x4 := (nI n) + 1
  a2 + (((S1.1 27 (nI n).toNatClampNeg).toInt64) + ((40 : Int64) * ((M_missing S1 (nI n)).toInt64)))
def M_bill_f (S1 : MS) : Nat → Int64
  | 0 => (0 : Int64)
  | n + 1 => M_bill_s S1 n (M_bill_f S1 n)

def M_bill (S : MS) : Int64 × MS :=
  let S1 := mset S 29 0 0
  let a2 := M_bill_f S1 3
  (a2, S1)
set_option maxHeartbeats 4000000 in
set_option maxRecDepth 100000 in
theorem cM_bill (G : GX) (ad : Nat → Nat) (S : MS) : FC G yX4_bill cX4_bill 4 (some .long) ({ frames := 1, cells := 0, slots := 0, locals := 21 }) [.ref (ad 0)] (mW G.2.2.2 ad S) (pv (.long (M_bill S).1) (mW G.2.2.2 ad (M_bill S).2)) := by
  refine FC.go (lv := [(0, .ref (ad 0))]) (by decide) (Nat.le_of_ble_eq_true rfl) rfl (fun p e s m args below meth c A H locs ls Q hx hb hr hts hown hml hlocks hnm hK hE hI hA hl hQ => ?_)
  have hown : s.vm.findClass RX4 = some m.cls := hown
  refine lv_aload_n hx hb dX4_bill_0 rfl (lv_at hl 0 rfl) ?_
  refine lv_iconst (v := 0) hx hb dX4_bill_1 (by decide) ?_
  obtain ⟨S1, eS1⟩ : ∃ z : MS, z = mset S 29 0 0 := ⟨_, rfl⟩
  refine pM_88 hx hb hts hown hK hI eS1 dX4_bill_2 (fun H locs hI => ?_)
  refine lv_lconst (v := 0) hx hb dX4_bill_5 (by decide) ?_
  refine lv_lstore_n (lv' := [(1, .long (0 : Int64)), (0, .ref (ad 0))]) hx hb dX4_bill_6 rfl hl (by decide) rfl (fun ls hl => ?_)
  refine lv_iconst (v := 0) hx hb dX4_bill_7 (by decide) ?_
  refine lv_istore_n (lv' := [(3, .int 0), (1, .long (0 : Int64)), (0, .ref (ad 0))]) hx hb dX4_bill_8 rfl hl (by decide) rfl (fun ls hl => ?_)
  have hL3 : ∀ (k n : Nat), n + k = 3 → ∀ (i_ : Int32) (a2 : Int64) (H : Heap) (locs : List Loc) (ls : Array Slot), (i_ = nI n) → (a2 = M_bill_f S1 n) → (fI G.2.2.1 A s.heap (mW G.2.2.2 ad S1) H locs) → (lv_has ls 4 [(3, .int i_), (1, .long a2), (0, .ref (ad 0))]) → W p G.1 e ({ frames := 1, cells := 0, slots := 0, locals := 21 }) s m args below meth c H locs 0 0 Q (F0 m 9 ls []) := by
    intro k
    induction k with
    | zero =>
      intro n hnk i_ a2 H locs ls ei ea2 hI hl
      subst ei
      refine lv_iload_n hx hb dX4_bill_9 rfl (lv_at hl 0 rfl) ?_
      refine lv_iconst (v := 3) hx hb dX4_bill_10 (by decide) ?_
      refine lv_icmp_ge (tgt := 41) hx hb dX4_bill_11 (by decide) (fun _ => ?_) (fun h => absurd (by rw [(show (3 : Int32) = nI 3 from rfl)]; exact nI_le (by omega) (by omega)) h)
      have hn9 : n = 3 := by omega
      rw [hn9] at ea2
      have hl : lv_has ls 4 [(1, .long a2), (0, .ref (ad 0))] := lv_sub hl [1, 2] rfl
      refine lv_lload_n hx hb dX4_bill_41 rfl (lv_at hl 0 rfl) ?_
      have HE : M_bill S = (a2, S1) := by subst ea2 eS1; exact rfl
      exact rt_l hx hb hr hlocks hI hA hQ ⟨by rw [HE], by rw [HE]⟩ (Nat.zero_le _) (Nat.zero_le _) dX4_bill_42
    | succ k ih =>
      intro n hnk i_ a2 H locs ls ei ea2 hI hl
      subst ei
      refine lv_iload_n hx hb dX4_bill_9 rfl (lv_at hl 0 rfl) ?_
      refine lv_iconst (v := 3) hx hb dX4_bill_10 (by decide) ?_
      refine lv_icmp_ge (tgt := 41) hx hb dX4_bill_11 (by decide) (fun h => absurd h (by rw [(show (3 : Int32) = nI 3 from rfl)]; exact nI_ge (by omega) (by omega))) (fun _ => ?_)
      refine lv_lload_n hx hb dX4_bill_14 rfl (lv_at hl 1 rfl) ?_
      refine lv_aload_n hx hb dX4_bill_15 rfl (lv_at hl 2 rfl) ?_
      refine gM_82 hx hb hts hown hK hI dX4_bill_16 ?_
      refine lv_iload_n hx hb dX4_bill_19 rfl (lv_at hl 0 rfl) ?_
      refine lM_27 hx hb hK hI (vp_in_nI (by omega) (by decide)) dX4_bill_20 ?_
      refine lv_i2l hx hb dX4_bill_21 rfl ?_
      refine lv_ldc2 (v := 40) hx hb hown (hts _ q1080) dX4_bill_22 ?_
      refine lv_aload_n hx hb dX4_bill_25 rfl (lv_at hl 2 rfl) ?_
      refine lv_iload_n hx hb dX4_bill_26 rfl (lv_at hl 0 rfl) ?_
      refine cVv (rest := [.long (40 : Int64), .long ((S1.1 27 (nI n).toNatClampNeg).toInt64), .long a2]) hx hb hml hts hown hK hE hI (cM_missing G ad S1 (nI n) (vp_in_nI (by omega) (by decide))) kM_206 ⟨Nat.le_of_ble_eq_true rfl, Nat.le_of_ble_eq_true rfl⟩ rfl rfl (kk := 4) (ii := 0) rfl rfl rfl hl.1 rfl (Nat.le_of_ble_eq_true rfl) dX4_bill_27 ⟨Nat.zero_le _, Nat.zero_le _⟩ (fun H locs hI => ?_)
      refine lv_i2l hx hb dX4_bill_30 rfl ?_
      refine lv_lmul hx hb dX4_bill_31 ?_
      refine lv_ladd hx hb dX4_bill_32 ?_
      refine lv_ladd hx hb dX4_bill_33 ?_
      refine lv_lstore_n (lv' := [(1, .long (a2 + (((S1.1 27 (nI n).toNatClampNeg).toInt64) + ((40 : Int64) * ((M_missing S1 (nI n)).toInt64))))), (3, .int (nI n)), (0, .ref (ad 0))]) hx hb dX4_bill_34 rfl hl (by decide) rfl (fun ls hl => ?_)
      obtain ⟨x4, ex4⟩ : ∃ z : Int32, z = (nI n) + 1 := ⟨_, rfl⟩
      refine lv_iinc (v := x4) (lv' := [(3, .int x4), (1, .long (a2 + (((S1.1 27 (nI n).toNatClampNeg).toInt64) + ((40 : Int64) * ((M_missing S1 (nI n)).toInt64))))), (0, .ref (ad 0))]) hx hb dX4_bill_35 hl (k := 1) rfl (by rw [ex4]; rfl) (by decide) rfl (fun ls hl => ?_)
      refine lv_goto (tgt := 9) hx hb dX4_bill_38 (by decide) ?_
      have HE : M_bill_s S1 n a2 = a2 + (((S1.1 27 (nI n).toNatClampNeg).toInt64) + ((40 : Int64) * ((M_missing S1 (nI n)).toInt64))) := by subst ex4; exact rfl
      exact ih (n + 1) (by omega) x4 (a2 + (((S1.1 27 (nI n).toNatClampNeg).toInt64) + ((40 : Int64) * ((M_missing S1 (nI n)).toInt64)))) H locs ls (by rw [ex4]; exact nI_1 n) (by show _ = M_bill_s S1 n (M_bill_f S1 n); rw [← ea2]; exact HE.symm) hI (lv_sub hl [0, 1, 2] rfl)
  exact hL3 3 0 (by omega) 0 (0 : Int64) H locs ls nI_0.symm rfl hI (lv_sub hl [0, 1, 2] rfl)
