theorem cL_grow0 (G : GX) (Z : XZ) (S : XS) (li : Nat) (hG : LG Z li) : FC G yJx4a65c_grow_d5877 cJx4a65c_grow_d5877 1 (some (.array (.object "java/lang/Object"))) { frames := 4, cells := 1, slots := 768, locals := 130 } [.ref (Z.A 6 li)] (xW G.2.2.2 G.2.1 Z S) (poG G.2.2.2 G.2.1 Z S li) := by
  refine FC.go (lv := [(0, .ref (Z.A 6 li))]) (by decide) (Nat.le_of_ble_eq_true rfl) rfl (fun p e s m args below meth c A H locs ls Q hx hb hr hts hown hml hlocks hnm hK hE hI hA hl hQ => ?_)
  have hown : s.vm.findClass RJx4a65c = some m.cls := hown
  refine lv_aload_n hx hb dJx4a65c_grow_d5877_0 rfl (lv_at hl 0 rfl) ?_
  refine lv_aload_n hx hb dJx4a65c_grow_d5877_1 rfl (lv_at hl 0 rfl) ?_
  refine gL_48 hx hb hts hown hK hI hG.1 dJx4a65c_grow_d5877_2 ?_
  refine lv_iconst (v := 1) hx hb dJx4a65c_grow_d5877_5 (by decide) ?_
  refine lv_iadd hx hb dJx4a65c_grow_d5877_6 ?_
  rw [nI_1]
  refine fx_callV (rest := []) (as := [.int (nI (Z.N li + 1))]) hx hb hml hts hown hK hE hI (cL_grow1 G Z S li hG) kL_69 ⟨Nat.le_of_ble_eq_true rfl, Nat.le_of_ble_eq_true rfl⟩ (kk := 6) (ii := li) (xW6 hG.1) rfl rfl hl.1 (Nat.le_of_ble_eq_true rfl) dJx4a65c_grow_d5877_7 ⟨Nat.le_of_ble_eq_true rfl, Nat.le_of_ble_eq_true rfl⟩ (fun v w' H1 locs1 hp hI => ?_)
  obtain ⟨h, rfl, rfl⟩ := hp
  exact rt_a hx hb hr (Or.inr ⟨_, rfl⟩) hlocks (Or.inr ⟨_, rfl⟩) hI hA hQ ⟨_, rfl, rfl⟩ (Nat.le_of_ble_eq_true rfl) (Nat.le_of_ble_eq_true rfl) dJx4a65c_grow_d5877_10
/-- the shape after an entry is added: grown if it was full -/
def zG (Z : XZ) (li h : Nat) : XZ := if Z.N li = Z.P li then zP Z li h else Z
def LA (Z : XZ) (li : Nat) : Prop := li < 3 ∧ Z.N li ≤ Z.P li ∧ Z.P li ≤ 768 ∧ Z.N li ≤ 511 ∧ Z.N li < Z.O (li + 1) ∧ (∀ j, j < Z.N li → j < Z.O (li + 1))
theorem xObj {T : Nat → ClassId} {z : Nat} {Z : XZ} {S : XS} {li i : Nat} (hli : li < 3) (ho : i < Z.O (li + 1)) : ∃ k j ci fs, xW T z Z S k j = some (Z.A (li + 1) i, .inr (ci, fs)) ∧ (ci = 1 ∨ ci = 2 ∨ ci = 3) := by
  match li, hli with
  | 0, _ => exact ⟨1, i, 2, _, xW1 ho, Or.inr (Or.inl rfl)⟩
  | 1, _ => exact ⟨2, i, 3, _, xW2 ho, Or.inr (Or.inr rfl)⟩
  | 2, _ => exact ⟨3, i, 1, _, xW3 ho, Or.inl rfl⟩
theorem cL_addh (G : GX) (Z : XZ) (S : XS) (li : Nat) (hL : LA Z li) : FC G yJx4a65c_add_72be8 cJx4a65c_add_72be8 4 none { frames := 5, cells := 1, slots := 768, locals := 160 } [.ref (Z.A 6 li), .ref (Z.A (li + 1) (Z.N li)), .ref (if Z.P li = 0 then G.2.1 else Z.A 7 li), .int (nI (Z.N li))] (xW G.2.2.2 G.2.1 Z S) (fun v w' => v = none ∧ ∃ h : Nat, w' = xW G.2.2.2 G.2.1 (zN (zG Z li h) li) S) := by
  obtain ⟨hli, hNP, hP7, hN5, hob, hO⟩ := hL
  refine FC.go (lv := [(0, .ref (Z.A 6 li)), (1, .ref (Z.A (li + 1) (Z.N li))), (2, .ref (if Z.P li = 0 then G.2.1 else Z.A 7 li)), (3, .int (nI (Z.N li)))]) (by decide) (Nat.le_of_ble_eq_true rfl) rfl (fun p e s m args below meth c A H locs ls Q hx hb hr hts hown hml hlocks hnm hK hE hI hA hl hQ => ?_)
  have hown : s.vm.findClass RJx4a65c = some m.cls := hown
  have tail : ∀ (Z1 : XZ) (h : Nat) (H : Heap) (locs : List Loc) (ls : Array Slot) (k9 n9 : Nat), Z1 = zG Z li h → Z1.A 6 li = Z.A 6 li → Z1.A (li + 1) (Z.N li) = Z.A (li + 1) (Z.N li) → Z1.N li = Z.N li → Z.N li < Z1.P li → Z1.P li ≤ 768 → Z.N li < Z1.O (li + 1) → k9 ≤ 1 → n9 ≤ 768 → fI G.2.2.1 A s.heap (xW G.2.2.2 G.2.1 Z1 S) H locs → lv_has ls 4 [(2, .ref (Z1.A 7 li)), (0, .ref (Z.A 6 li)), (1, .ref (Z.A (li + 1) (Z.N li))), (3, .int (nI (Z.N li)))] → W p G.1 e { frames := 5, cells := 1, slots := 768, locals := 160 } s m args below meth c H locs k9 n9 Q (F0 m 11 ls []) := by
    intro Z1 h H locs ls k9 n9 eZ a6 a1 eN hP1 hP2 hO1 hk9 hn9 hI hl
    have hp0 : ¬ Z1.P li = 0 := by omega
    refine lv_aload_n hx hb dJx4a65c_add_72be8_11 rfl (lv_at hl 0 rfl) ?_
    refine lv_iload_n hx hb dJx4a65c_add_72be8_12 rfl (lv_at hl 3 rfl) ?_
    refine lv_aload_n hx hb dJx4a65c_add_72be8_13 rfl (lv_at hl 2 rfl) ?_
    have hcl : (nI (Z.N li)).toNatClampNeg = Z.N li := nI_clamp (by omega)
    obtain ⟨ko, jo, cio, fso, hwo, hcio⟩ := xObj (T := G.2.2.2) (z := G.2.1) (S := S) hli hO1
    rw [a1] at hwo
    refine fx_aast hx hb hK hI (xW7 ⟨hli, hp0⟩) (fx_any hE hK hI hwo hcio) (vp_in_nI hP1 (by omega)) dJx4a65c_add_72be8_14 (fun H locs hI => ?_)
    rw [hcl] at hI
    refine lv_aload_n hx hb dJx4a65c_add_72be8_15 rfl (lv_at hl 1 rfl) ?_
    refine lv_iload_n hx hb dJx4a65c_add_72be8_16 rfl (lv_at hl 3 rfl) ?_
    refine lv_iconst (v := 1) hx hb dJx4a65c_add_72be8_17 (by decide) ?_
    refine lv_iadd hx hb dJx4a65c_add_72be8_18 ?_
    rw [nI_1]
    rw [← a6]
    refine fx_put hx hb hts hown hK hI inXL rfl tyJx4a65c tyJx4a65c_ok nmJx4a65c 2 (by decide) q43 (fun _ h => h) rfl (k := 6) (i := li) (by rw [fU_ne (by omega)]; exact xW6 hli) rfl rfl (Nat.le_of_ble_eq_true rfl) (w' := xW G.2.2.2 G.2.1 (zN Z1 li) S) (by have h9 := zN_done (T := G.2.2.2) (z := G.2.1) (S := S) hli hp0; rw [eN, a1] at h9; exact h9) dJx4a65c_add_72be8_19 (fun H locs hI => ?_)
    exact rt_v hx hb hr hlocks hI hA hQ ⟨rfl, h, by rw [eZ]⟩ hk9 hn9 dJx4a65c_add_72be8_22
  refine lv_iload_n hx hb dJx4a65c_add_72be8_0 rfl (lv_at hl 3 rfl) ?_
  refine lv_aload_n hx hb dJx4a65c_add_72be8_1 rfl (lv_at hl 2 rfl) ?_
  have grown : Z.N li = Z.P li → W p G.1 e { frames := 5, cells := 1, slots := 768, locals := 160 } s m args below meth c H locs 0 0 Q (F0 m 6 ls []) := fun hfull => by
    refine lv_aload_n hx hb dJx4a65c_add_72be8_6 rfl (lv_at hl 0 rfl) ?_
    refine fx_callV (rest := []) (as := []) hx hb hml hts hown hK hE hI (cL_grow0 G Z S li ⟨hli, hfull, by omega, hO⟩) kL_129 ⟨Nat.le_of_ble_eq_true rfl, Nat.le_of_ble_eq_true rfl⟩ (kk := 6) (ii := li) (xW6 hli) rfl rfl hl.1 (Nat.le_of_ble_eq_true rfl) dJx4a65c_add_72be8_7 ⟨Nat.le_of_ble_eq_true rfl, Nat.le_of_ble_eq_true rfl⟩ (fun v w' H1 locs1 hp hI => ?_)
    obtain ⟨h, rfl, rfl⟩ := hp
    refine lv_astore_n (lv' := [(2, .ref h), (0, .ref (Z.A 6 li)), (1, .ref (Z.A (li + 1) (Z.N li))), (3, .int (nI (Z.N li)))]) hx hb dJx4a65c_add_72be8_10 rfl hl (by decide) rfl (fun ls hl => ?_)
    have hgc := gc_le (P := Z.P li) (by omega)
    have hgg := gc_gt (P := Z.P li)
    exact tail (zP Z li h) h _ _ ls _ _ (by unfold zG; rw [if_pos hfull]) (zP_A (fun z => by omega)) (zP_A (fun z => by omega)) rfl (by rw [zP_Ps]; omega) (by rw [zP_Ps]; exact hgc) hob (Nat.le_of_ble_eq_true rfl) (Nat.le_of_ble_eq_true rfl) hI (by rw [zP_As]; exact hl)
  by_cases hP0 : Z.P li = 0
  · rw [if_pos hP0]
    refine fx_alenz hx hb hE hI dJx4a65c_add_72be8_2 ?_
    have hN0 : Z.N li = 0 := by omega
    refine lv_icmp_ne (tgt := 11) hx hb dJx4a65c_add_72be8_3 (by decide) (fun h => absurd (by rw [hN0]; rfl) h) (fun _ => ?_)
    exact grown (by omega)
  · rw [if_neg hP0]
    refine fx_alenq hx hb hK hI (xW7 ⟨hli, hP0⟩) dJx4a65c_add_72be8_2 ?_
    have key : nI (Z.N li) = nI (Z.P li) ↔ Z.N li = Z.P li := ⟨fun z => by
      have z2 := congrArg Int32.toNatClampNeg z
      rw [nI_clamp (by omega), nI_clamp (by omega)] at z2
      exact z2, fun z => by rw [z]⟩
    refine lv_icmp_ne (tgt := 11) hx hb dJx4a65c_add_72be8_3 (by decide) (fun h => ?_) (fun h => ?_)
    · have hne : ¬ Z.N li = Z.P li := fun z => h (key.mpr z)
      exact tail Z 0 _ _ ls _ _ (by unfold zG; rw [if_neg hne]) rfl rfl rfl (by omega) hP7 hob (Nat.zero_le _) (Nat.zero_le _) hI (by rw [if_neg hP0] at hl; exact lv_sub hl [2, 0, 1, 3] rfl)
    · have hfull : Z.N li = Z.P li := key.mp (Classical.byContradiction fun z => by first | exact z h | exact h z)
      exact grown hfull
theorem cL_add (G : GX) (Z : XZ) (S : XS) (li : Nat) (hL : LA Z li) : FC G yJx4a65c_add_9ea2d cJx4a65c_add_9ea2d 2 (some .boolean) { frames := 6, cells := 1, slots := 768, locals := 192 } [.ref (Z.A 6 li), .ref (Z.A (li + 1) (Z.N li))] (xW G.2.2.2 G.2.1 Z S) (fun v w' => v = some (.int 1) ∧ ∃ h : Nat, w' = xW G.2.2.2 G.2.1 (zN (zG Z li h) li) (xset S 6 li 0 (S.1 6 li 0 + 1))) := by
  have hli := hL.1
  refine FC.go (lv := [(0, .ref (Z.A 6 li)), (1, .ref (Z.A (li + 1) (Z.N li)))]) (by decide) (Nat.le_of_ble_eq_true rfl) rfl (fun p e s m args below meth c A H locs ls Q hx hb hr hts hown hml hlocks hnm hK hE hI hA hl hQ => ?_)
  have hown : s.vm.findClass RJx4a65c = some m.cls := hown
  refine lv_aload_n hx hb dJx4a65c_add_9ea2d_0 rfl (lv_at hl 0 rfl) ?_
  refine lv_dup hx hb dJx4a65c_add_9ea2d_1 rfl ?_
  refine fx_get hx hb hts hown hK hI inXL rfl 0 (by decide) q45 (fun x9 h9 => u_same (hts _ q46) x9 h9) (k := 6) (i := li) (xW6 hli) rfl dJx4a65c_add_9ea2d_2 ?_
  refine lv_iconst (v := 1) hx hb dJx4a65c_add_9ea2d_5 (by decide) ?_
  refine lv_iadd hx hb dJx4a65c_add_9ea2d_6 ?_
  refine fx_put hx hb hts hown hK hI inXL rfl tyJx4a65c tyJx4a65c_ok nmJx4a65c 0 (by decide) q45 (fun x9 h9 => u_same (hts _ q46) x9 h9) rfl (k := 6) (i := li) (xW6 hli) rfl rfl (Nat.le_of_ble_eq_true rfl) (xU6 hli rfl) dJx4a65c_add_9ea2d_7 (fun H locs hI => ?_)
  refine lv_aload_n hx hb dJx4a65c_add_9ea2d_10 rfl (lv_at hl 0 rfl) ?_
  refine lv_aload_n hx hb dJx4a65c_add_9ea2d_11 rfl (lv_at hl 1 rfl) ?_
  refine lv_aload_n hx hb dJx4a65c_add_9ea2d_12 rfl (lv_at hl 0 rfl) ?_
  refine gL_9 hx hb hts hown hK hI hli dJx4a65c_add_9ea2d_13 ?_
  refine lv_aload_n hx hb dJx4a65c_add_9ea2d_16 rfl (lv_at hl 0 rfl) ?_
  refine gL_48 hx hb hts hown hK hI hli dJx4a65c_add_9ea2d_17 ?_
  refine fx_callV (rest := []) (as := [.ref (Z.A (li + 1) (Z.N li)), .ref (if Z.P li = 0 then G.2.1 else Z.A 7 li), .int (nI (Z.N li))]) hx hb hml hts hown hK hE hI (cL_addh G Z _ li hL) kL_131 ⟨Nat.le_of_ble_eq_true rfl, Nat.le_of_ble_eq_true rfl⟩ (kk := 6) (ii := li) (xW6 hli) rfl rfl hl.1 (Nat.le_of_ble_eq_true rfl) dJx4a65c_add_9ea2d_20 ⟨Nat.le_of_ble_eq_true rfl, Nat.le_of_ble_eq_true rfl⟩ (fun v w' H1 locs1 hp hI => ?_)
  obtain ⟨rfl, h, rfl⟩ := hp
  refine lv_iconst (v := 1) hx hb dJx4a65c_add_9ea2d_23 (by decide) ?_
  exact rt_z hx hb hr hlocks (by decide) hI hA hQ ⟨rfl, h, rfl⟩ (Nat.le_of_ble_eq_true rfl) (Nat.le_of_ble_eq_true rfl) dJx4a65c_add_9ea2d_24
