theorem cA_copy2 (G : GX) (w : WD) (k j a n n' : Nat) (f : Nat → Option Nat) (he : w k j = some (a, aQ G.2.2.2 n f)) (h9 : w 9 0 = none) (hn : n ≤ n') (hn' : n' ≤ 768) (hf : ∀ i, n ≤ i → f i = none) (hel : ∀ i y, f i = some y → ∃ k i ci fs, w k i = some (y, .inr (ci, fs)) ∧ (ci = 1 ∨ ci = 2 ∨ ci = 3)) : FC G yJ7_copyOf_1904c cJ7_copyOf_1904c 2 (some (.array (.object "java/lang/Object"))) { frames := 2, cells := 1, slots := 768, locals := 64 } [.ref a, .int (nI n')] w (poC G.2.2.2 w n' f) := by
  refine FC.go (lv := [(0, .ref a), (1, .int (nI n'))]) (by decide) (Nat.le_of_ble_eq_true rfl) rfl (fun p e s m args below meth c A H locs ls Q hx hb hr hts hown hml hlocks hnm hK hE hI hA hl hQ => ?_)
  have hown : s.vm.findClass RJ7 = some m.cls := hown
  refine lv_aload_n hx hb dJ7_copyOf_1904c_0 rfl (lv_at hl 0 rfl) ?_
  refine lv_iload_n hx hb dJ7_copyOf_1904c_1 rfl (lv_at hl 1 rfl) ?_
  refine lv_aload_n hx hb dJ7_copyOf_1904c_2 rfl (lv_at hl 0 rfl) ?_
  have hr4 : ∃ cell : Cell, H[a]? = some cell ∧ cell.vm.isStatics = false ∧ s.vm.findClass "[Ljava/lang/Object;" = some cell.cls := ⟨_, hI.1 k j _ he, rfl, va_nmO (C := "java/lang/Object") (hK.2 4 _ rfl).2 rfl⟩
  refine va_getC (C := "[Ljava/lang/Object;") (rest := [.int (nI n'), .ref a]) hx hb (by rw [hml]; exact hl.1.symm) hown (hts _ q315) (XL_use q749 (hE.1 _ q749)) (hts _ q748) (hts _ q316) (hts _ q326) hE.2.2.2.2.2.2.2.1 hr4 (Nat.le_of_ble_eq_true rfl) (Nat.le_of_ble_eq_true rfl) dJ7_copyOf_1904c_3 ?_
  refine fx_callS (rest := []) (as := [.ref a, .int (nI n'), .ref (G.2.2.2 5)]) hx hb hml hts hown hK hE hI (cA_copy3 G w k j a n n' f he h9 hn hn' hf hel) kA_300 ⟨Nat.le_of_ble_eq_true rfl, Nat.le_of_ble_eq_true rfl⟩ hl.1 (Nat.le_of_ble_eq_true rfl) dJ7_copyOf_1904c_6 ⟨Nat.le_of_ble_eq_true rfl, Nat.le_of_ble_eq_true rfl⟩ (fun v w' H1 locs1 hp hI => ?_)
  obtain ⟨h, rfl, rfl⟩ := hp
  exact rt_a hx hb hr (Or.inr ⟨_, rfl⟩) hlocks (Or.inr ⟨_, rfl⟩) hI hA hQ ⟨_, rfl, rfl⟩ (Nat.le_of_ble_eq_true rfl) (Nat.le_of_ble_eq_true rfl) dJ7_copyOf_1904c_9
/-- what a list must be that grows -/
def LG (Z : XZ) (li : Nat) : Prop := li < 3 ∧ Z.N li = Z.P li ∧ Z.P li ≤ 512 ∧ (∀ j, j < Z.N li → j < Z.O (li + 1))
def poG (T : Nat → ClassId) (z : Nat) (Z : XZ) (S : XS) (li : Nat) : Option Value → WD → Prop := fun v w' => ∃ h : Nat, v = some (.ref h) ∧ w' = xW T z (zP Z li h) S
theorem xEl_in {T : Nat → ClassId} {z : Nat} {Z : XZ} {S : XS} {li i y : Nat} (hli : li < 3) (hO : ∀ j, j < Z.N li → j < Z.O (li + 1)) (h : xEl Z li i = some y) : ∃ k i ci fs, xW T z Z S k i = some (y, .inr (ci, fs)) ∧ (ci = 1 ∨ ci = 2 ∨ ci = 3) := by
  unfold xEl at h
  by_cases hi : i < Z.N li
  · rw [if_pos hi] at h
    have e := Option.some.inj h
    have ho := hO i hi
    match li, hli with
    | 0, _ => exact ⟨1, i, 2, _, by rw [xW1 ho, e], Or.inr (Or.inl rfl)⟩
    | 1, _ => exact ⟨2, i, 3, _, by rw [xW2 ho, e], Or.inr (Or.inr rfl)⟩
    | 2, _ => exact ⟨3, i, 1, _, by rw [xW3 ho, e], Or.inl rfl⟩
  · rw [if_neg hi] at h
    cases h
theorem cL_grow1 (G : GX) (Z : XZ) (S : XS) (li : Nat) (hG : LG Z li) : FC G yJx4a65c_grow_92f84 cJx4a65c_grow_92f84 4 (some (.array (.object "java/lang/Object"))) { frames := 3, cells := 1, slots := 768, locals := 96 } [.ref (Z.A 6 li), .int (nI (Z.N li + 1))] (xW G.2.2.2 G.2.1 Z S) (poG G.2.2.2 G.2.1 Z S li) := by
  obtain ⟨hli, hNP, hP5, hO⟩ := hG
  refine FC.go (lv := [(0, .ref (Z.A 6 li)), (1, .int (nI (Z.N li + 1)))]) (by decide) (Nat.le_of_ble_eq_true rfl) rfl (fun p e s m args below meth c A H locs ls Q hx hb hr hts hown hml hlocks hnm hK hE hI hA hl hQ => ?_)
  have hown : s.vm.findClass RJx4a65c = some m.cls := hown
  have hput : ∀ (h : Nat) (H : Heap) (locs : List Loc) (ls : Array Slot) (pc : Nat) (rest : List Value), fI G.2.2.1 A s.heap (fU (xW G.2.2.2 G.2.1 Z S) 9 0 (h, aQ G.2.2.2 (gc (Z.P li)) (xEl Z li))) H locs → decode cJx4a65c_grow_92f84 pc = .ok (.putfield 9, 3) → (∀ (H1 : Heap) (locs1 : List Loc), fI G.2.2.1 A s.heap (xW G.2.2.2 G.2.1 (zP Z li h) S) H1 locs1 → W p G.1 e { frames := 3, cells := 1, slots := 768, locals := 96 } s m args below meth c H1 locs1 1 (gc (Z.P li)) Q (F0 m (pc + 3) ls rest)) → W p G.1 e { frames := 3, cells := 1, slots := 768, locals := 96 } s m args below meth c H locs 1 (gc (Z.P li)) Q (F0 m pc ls (.ref h :: .ref (Z.A 6 li) :: rest)) := by
    intro h H locs ls pc rest hI hd kk
    exact fx_put hx hb hts hown hK hI inXL rfl tyJx4a65c tyJx4a65c_ok nmJx4a65c 1 (by decide) q42 (fun _ h => h) rfl (k := 6) (i := li) (by rw [fU_ne (by omega)]; exact xW6 hli) rfl rfl (Nat.le_of_ble_eq_true rfl) rfl hd (fun H1 locs1 hI => kk H1 locs1 (zP_done hli rfl hI))
  have hgc := gc_le hP5
  refine lv_aload_n hx hb dJx4a65c_grow_92f84_0 rfl (lv_at hl 0 rfl) ?_
  refine gL_9 hx hb hts hown hK hI hli dJx4a65c_grow_92f84_1 ?_
  by_cases hP0 : Z.P li = 0
  · rw [if_pos hP0]
    refine fx_alenz hx hb hE hI dJx4a65c_grow_92f84_4 ?_
    refine lv_istore_n (lv' := [(2, .int 0), (0, .ref (Z.A 6 li)), (1, .int (nI (Z.N li + 1)))]) hx hb dJx4a65c_grow_92f84_5 rfl hl (by decide) rfl (fun ls hl => ?_)
    refine lv_iload_n hx hb dJx4a65c_grow_92f84_6 rfl (lv_at hl 0 rfl) ?_
    refine lv_if_gt (tgt := 20) hx hb dJx4a65c_grow_92f84_7 (by decide) (fun h => absurd h (by decide)) (fun _ => ?_)
    refine lv_aload_n hx hb dJx4a65c_grow_92f84_10 rfl (lv_at hl 1 rfl) ?_
    refine gL_9 hx hb hts hown hK hI hli dJx4a65c_grow_92f84_11 ?_
    rw [if_pos hP0]
    refine va_gets hx hb hE.2.2.2.2.1 hI.2.2.1 hown (hts _ q40) (fun _ h => h) dJx4a65c_grow_92f84_14 ?_
    refine lv_acmp_eq (rx := some G.2.1) (ry := some G.2.1) (tgt := 45) hx hb dJx4a65c_grow_92f84_17 (by decide) (fun _ => ?_) (fun h => absurd rfl h)
    refine lv_aload_n hx hb dJx4a65c_grow_92f84_45 rfl (lv_at hl 1 rfl) ?_
    refine lv_bipush (v := 10) hx hb dJx4a65c_grow_92f84_46 (by decide) ?_
    refine lv_iload_n hx hb dJx4a65c_grow_92f84_48 rfl (lv_at hl 2 rfl) ?_
    refine va_mmax (rest := [.ref (Z.A 6 li)]) hx hb (by rw [hml]; exact hl.1.symm) hown (hts _ q339) (hts _ q93) (hts _ q12) (hts _ q94) (Nat.le_of_ble_eq_true rfl) (Nat.le_of_ble_eq_true rfl) (Nat.zero_le _) (Nat.zero_le _) dJx4a65c_grow_92f84_49 ?_
    have e10 : (if (10 : Int32) < nI (Z.N li + 1) then nI (Z.N li + 1) else 10) = 10 := by rw [hNP, hP0]; decide
    rw [e10]
    have g10 : gc (Z.P li) = 10 := by rw [hP0]; rfl
    refine fx_newq (k := 9) (i := 0) (N := 10) hx hb hts hown hK hE hI q340 (by decide) (by decide) (by decide) (Nat.le_of_ble_eq_true rfl) (Nat.le_of_ble_eq_true rfl) rfl dJx4a65c_grow_92f84_52 (fun H1 hI z1 => ?_)
    refine lv_dup_x1 hx hb dJx4a65c_grow_92f84_55 rfl rfl ?_
    have eN : (fun _ => none) = xEl Z li := by
      funext j
      unfold xEl
      rw [if_neg (by omega)]
    rw [eN] at hI
    have h3 := hput H.size H1 locs ls 56 [.ref H.size] (by rw [g10]; exact hI) dJx4a65c_grow_92f84_56 (fun H2 locs2 hI2 => ?_)
    · rw [g10] at h3
      exact h3
    · exact rt_a hx hb hr (Or.inr ⟨_, rfl⟩) hlocks (Or.inr ⟨_, rfl⟩) hI2 hA hQ ⟨_, rfl, rfl⟩ (Nat.le_of_ble_eq_true rfl) (by show gc (Z.P li) ≤ 768; omega) dJx4a65c_grow_92f84_59
  · rw [if_neg hP0]
    have he : xW G.2.2.2 G.2.1 Z S 7 li = some (Z.A 7 li, aQ G.2.2.2 (Z.P li) (xEl Z li)) := xW7 ⟨hli, hP0⟩
    refine fx_alenq hx hb hK hI he dJx4a65c_grow_92f84_4 ?_
    refine lv_istore_n (lv' := [(2, .int (nI (Z.P li))), (0, .ref (Z.A 6 li)), (1, .int (nI (Z.N li + 1)))]) hx hb dJx4a65c_grow_92f84_5 rfl hl (by decide) rfl (fun ls hl => ?_)
    refine lv_iload_n hx hb dJx4a65c_grow_92f84_6 rfl (lv_at hl 0 rfl) ?_
    refine lv_if_gt (tgt := 20) hx hb dJx4a65c_grow_92f84_7 (by decide) (fun _ => ?_) (fun h => absurd (show (0 : Int32) < nI (Z.P li) by rw [Int32.lt_iff_toInt_lt, nI_toInt (by omega), Int32.toInt_zero]; omega) h)
    refine lv_iload_n hx hb dJx4a65c_grow_92f84_20 rfl (lv_at hl 0 rfl) ?_
    refine lv_iload_n hx hb dJx4a65c_grow_92f84_21 rfl (lv_at hl 2 rfl) ?_
    refine lv_iload_n hx hb dJx4a65c_grow_92f84_22 rfl (lv_at hl 0 rfl) ?_
    refine lv_isub hx hb dJx4a65c_grow_92f84_23 ?_
    refine lv_iload_n hx hb dJx4a65c_grow_92f84_24 rfl (lv_at hl 0 rfl) ?_
    refine lv_iconst (v := 1) hx hb dJx4a65c_grow_92f84_25 (by decide) ?_
    refine lv_ishr hx hb dJx4a65c_grow_92f84_26 ?_
    rw [hNP, gc_sub _ (by omega), gc_shr _ (by omega)]
    rw [hNP] at hl
    refine cSv (rest := []) hx hb hml hts hown hK hE hI (cU_nl G _ (Z.P li) (by omega) hP0) kL_73 ⟨Nat.le_of_ble_eq_true rfl, Nat.le_of_ble_eq_true rfl⟩ rfl rfl hl.1 rfl (Nat.le_of_ble_eq_true rfl) dJx4a65c_grow_92f84_27 ⟨Nat.zero_le _, Nat.zero_le _⟩ (fun H locs hI => ?_)
    refine lv_istore_n (lv' := [(3, .int (nI (gc (Z.P li)))), (2, .int (nI (Z.P li))), (0, .ref (Z.A 6 li)), (1, .int (nI (Z.P li + 1)))]) hx hb dJx4a65c_grow_92f84_30 rfl hl (by decide) rfl (fun ls hl => ?_)
    refine lv_aload_n hx hb dJx4a65c_grow_92f84_31 rfl (lv_at hl 2 rfl) ?_
    refine lv_aload_n hx hb dJx4a65c_grow_92f84_32 rfl (lv_at hl 2 rfl) ?_
    refine gL_9 hx hb hts hown hK hI hli dJx4a65c_grow_92f84_33 ?_
    rw [if_neg hP0]
    refine lv_iload_n hx hb dJx4a65c_grow_92f84_36 rfl (lv_at hl 0 rfl) ?_
    refine fx_callS (rest := [.ref (Z.A 6 li)]) (as := [.ref (Z.A 7 li), .int (nI (gc (Z.P li)))]) hx hb hml hts hown hK hE hI (cA_copy2 G _ 7 li _ (Z.P li) (gc (Z.P li)) (xEl Z li) he rfl (Nat.le_of_lt gc_gt) hgc (fun i hi => if_neg (by omega)) (fun i y h => xEl_in hli hO h)) kL_66 ⟨Nat.le_of_ble_eq_true rfl, Nat.le_of_ble_eq_true rfl⟩ hl.1 (Nat.le_of_ble_eq_true rfl) dJx4a65c_grow_92f84_37 ⟨Nat.le_of_ble_eq_true rfl, Nat.le_of_ble_eq_true rfl⟩ (fun v w' H1 locs1 hp hI => ?_)
    obtain ⟨h, rfl, rfl⟩ := hp
    refine lv_dup_x1 hx hb dJx4a65c_grow_92f84_40 rfl rfl ?_
    refine fx_put hx hb hts hown hK hI inXL rfl tyJx4a65c tyJx4a65c_ok nmJx4a65c 1 (by decide) q42 (fun _ h => h) rfl (k := 6) (i := li) (by rw [fU_ne (by omega)]; exact xW6 hli) rfl rfl (Nat.le_of_ble_eq_true rfl) rfl dJx4a65c_grow_92f84_41 (fun H2 locs2 hI => ?_)
    have hI2 := zP_done hli rfl hI
    exact rt_a hx hb hr (Or.inr ⟨_, rfl⟩) hlocks (Or.inr ⟨_, rfl⟩) hI2 hA hQ ⟨_, rfl, rfl⟩ (Nat.le_of_ble_eq_true rfl) (Nat.le_of_ble_eq_true rfl) dJx4a65c_grow_92f84_44
