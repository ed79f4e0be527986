set_option maxHeartbeats 8000000 in
set_option maxRecDepth 100000 in
/-- the walk of the law's body -/
theorem whole_start {p : Program} {e : Env} {s : State} {m : MethodId} {below : List Frame} {meth : Method} {c : Code} (l : Launch) (hflags : l.flags = flags0) {b L : Nat} {xs : Nat → Int32} (hL : L ≤ 260) (C0 : lw_At p s m meth c b L xs) : W p l e room_1 s m #[Value.ref b] below meth c s.heap [] 0 0 (lw_Z below #[Value.ref b] s) (entryFrame m ([Value.ref b] : List Value).toArray 14) := by
  obtain ⟨hx, hb, hr, hml, hown, hts0, hX, hbl, hlocks, hgv⟩ := C0
  have hts : ∀ w ∈ WL, w.before #[Value.ref b] s = true := fun w h => hts0 w (List.mem_filter.mp h).1
  have ht1 : ∀ w ∈ tables_1, w.before #[Value.ref b] s = true := fun w h => hts0 w (List.mem_append_right _ h)
  have hown : s.vm.findClass "IcehighwayLaw" = some m.cls := hown
  obtain ⟨t0, mi, hE⟩ := ev_start ht1 hgv
  obtain ⟨D, T, hT5, hK⟩ := known_start hts ht1 mi
  have hst : l.stackTraces = false := by
    unfold Launch.stackTraces
    rw [hflags]
    decide
  obtain ⟨G, hG⟩ : ∃ G : GX, G = (l, t0, D, T) := ⟨_, rfl⟩
  have hGl : G.1 = l := by rw [hG]
  have hK : va_K G.2.2.1 vwCl (TYS G.2.2.2) s := by rw [hG]; exact hK
  have hE : EV (G.2.1, G.2.2.2 5) (fun q : Nat => s.heap.size ≤ q) s s.heap := by rw [hG]; show EV (t0, T 5) _ s s.heap; rw [hT5]; exact hE
  have hst0 : G.1.stackTraces = false := by rw [hGl]; exact hst
  have hbA : ¬ (fun q : Nat => s.heap.size ≤ q) b := Nat.not_le.mpr hbl
  have CC : LCtx p s m c b L xs G (fun q : Nat => s.heap.size ≤ q) := ⟨hx, hb, hml, hts, hown, hK, hE, hX, hbl, hbA, hst0⟩
  have KE : ∀ (H : Heap) (locs : List Loc) (ls : Array Slot) (cells slots : Nat), va_S (fun q : Nat => s.heap.size ≤ q) s.heap H locs → cells ≤ 799779 → slots ≤ 6702131 → W p G.1 e room_1 s m #[Value.ref b] below meth c H locs cells slots (lw_Z below #[Value.ref b] s) (F0 m 494 ls [.int 1]) := fun H locs ls cells slots hS h1 h2 => by
    refine va_forget (fun q hq => hS.2.2 q hq) ?_
    refine W.widen (k := 799779) (n := 6702131) h1 h2 ?_
    exact lw_ret (d0 := s.drawn) (Drawn.sameBut.refl s.drawn lw_cs) hx hb hr hlocks dL_law_494
  rw [← hGl]
  have hl := lv_entry ([.ref b]) (n := 14) (Nat.le_of_ble_eq_true rfl)
  rw [lg_entry_eq]
  generalize (lg_sl ([.ref b]) ++ List.replicate (14 - (lg_sl ([.ref b])).length) Slot.unset).toArray = ls at hl ⊢
  have hl : lv_has ls 14 [(0, .ref b)] := hl
  have hI : fI G.2.2.1 (fun q : Nat => s.heap.size ≤ q) s.heap (fun _ _ => none) s.heap [] := ⟨fun k i q h => (nomatch h), ⟨fun k i k2 i2 q q2 h => (nomatch h), fun k i q h => (nomatch h)⟩, va_S.rf, fun q h => h⟩
  refine fx_new (ci := 4) (k := 0) (i := 0) (fs := [.null, .null, .null, .null, .null, .null, .int 0, .int 0, .int 0]) hx hb hts hown hK hI inX3 rfl tyX3 tyX3_ok q20 q21 q1 (fun j hj => by rcases (show j = 0 ∨ j = 1 ∨ j = 2 ∨ j = 3 ∨ j = 4 ∨ j = 5 ∨ j = 6 ∨ j = 7 ∨ j = 8 by omega) with rfl | rfl | rfl | rfl | rfl | rfl | rfl | rfl | rfl <;> rfl) (Nat.le_of_ble_eq_true rfl) (Nat.le_of_ble_eq_true rfl) rfl dL_law_0 (fun H1 hI z1 => ?_)
  generalize ha0 : s.heap.size = a0
  have hI : fI G.2.2.1 (fun q : Nat => s.heap.size ≤ q) s.heap (x0 a0) H1 [] := by rw [← ha0]; exact hI
  refine lv_dup hx hb dL_law_3 rfl ?_
  refine fx_callI (rest := [.ref a0]) (as := []) hx hb hml hts hown hK hE hI (cX_init G a0) kLI_164 ⟨(Nat.le_of_ble_eq_true rfl), (Nat.le_of_ble_eq_true rfl)⟩ hl.1 (Nat.le_of_ble_eq_true rfl) dL_law_4 ⟨(Nat.le_of_ble_eq_true rfl), (Nat.le_of_ble_eq_true rfl)⟩ (fun v w' H locs hp hI => ?_)
  obtain ⟨rfl, adx, rfl⟩ := hp
  refine lv_astore_n (lv' := [(1, .ref a0), (0, .ref b)]) hx hb dL_law_7 rfl hl (by decide) rfl (fun ls hl => ?_)
  refine lv_bipush (v := 57) hx hb dL_law_8 (by decide) ?_
  refine fx_newa (atype := .int) (kt := 0) (a0 := (57, .inl fun _ => 0)) (k := 8) (i := 0) (w' := fun _ _ => none) hx hb hts hK hI rfl q82 (fun cA => by rw [vp_cell_i]; rfl) (by decide) (N := 57) rfl (Nat.le_of_ble_eq_true rfl) (Nat.le_of_ble_eq_true rfl) (Nat.le_of_ble_eq_true rfl) (by exact xW_8) (fun _ => rfl) dL_law_10 (fun N0 hI z2 => ?_)
  generalize H.size = h0 at hI ⊢
  refine lv_astore_n (lv' := [(2, .ref h0), (1, .ref a0), (0, .ref b)]) hx hb dL_law_12 rfl hl (by decide) rfl (fun ls hl => ?_)
  refine lv_bipush (v := 9) hx hb dL_law_13 (by decide) ?_
  refine fx_newa (atype := .int) (kt := 0) (a0 := (9, .inl fun _ => 0)) (k := 8) (i := 1) (w' := fun _ _ => none) hx hb hts hK hI rfl q82 (fun cA => by rw [vp_cell_i]; rfl) (by decide) (N := 9) rfl (Nat.le_of_ble_eq_true rfl) (Nat.le_of_ble_eq_true rfl) (Nat.le_of_ble_eq_true rfl) (by rw [fU_ne (by decide)]; exact xW_8) (fun _ => rfl) dL_law_15 (fun N1 hI z3 => ?_)
  generalize N0.size = h1 at hI ⊢
  refine lv_astore_n (lv' := [(3, .ref h1), (2, .ref h0), (1, .ref a0), (0, .ref b)]) hx hb dL_law_17 rfl hl (by decide) rfl (fun ls hl => ?_)
  refine lv_bipush (v := 16) hx hb dL_law_18 (by decide) ?_
  refine fx_newa (atype := .int) (kt := 0) (a0 := (16, .inl fun _ => 0)) (k := 8) (i := 2) (w' := fun _ _ => none) hx hb hts hK hI rfl q82 (fun cA => by rw [vp_cell_i]; rfl) (by decide) (N := 16) rfl (Nat.le_of_ble_eq_true rfl) (Nat.le_of_ble_eq_true rfl) (Nat.le_of_ble_eq_true rfl) (by rw [fU_ne (by decide), fU_ne (by decide)]; exact xW_8) (fun _ => rfl) dL_law_20 (fun N2 hI z4 => ?_)
  generalize N1.size = h2 at hI ⊢
  refine lv_astore (lv' := [(4, .ref h2), (3, .ref h1), (2, .ref h0), (1, .ref a0), (0, .ref b)]) hx hb dL_law_22 hl (by decide) rfl (fun ls hl => ?_)
  refine lv_bipush (v := 8) hx hb dL_law_24 (by decide) ?_
  refine fx_newa (atype := .int) (kt := 0) (a0 := (8, .inl fun _ => 0)) (k := 8) (i := 3) (w' := fun _ _ => none) hx hb hts hK hI rfl q82 (fun cA => by rw [vp_cell_i]; rfl) (by decide) (N := 8) rfl (Nat.le_of_ble_eq_true rfl) (Nat.le_of_ble_eq_true rfl) (Nat.le_of_ble_eq_true rfl) (by rw [fU_ne (by decide), fU_ne (by decide), fU_ne (by decide)]; exact xW_8) (fun _ => rfl) dL_law_26 (fun N3 hI z5 => ?_)
  generalize N2.size = h3 at hI ⊢
  refine lv_astore (lv' := [(5, .ref h3), (4, .ref h2), (3, .ref h1), (2, .ref h0), (1, .ref a0), (0, .ref b)]) hx hb dL_law_28 hl (by decide) rfl (fun ls hl => ?_)
  refine lv_bipush (v := 40) hx hb dL_law_30 (by decide) ?_
  refine fx_newa (atype := .int) (kt := 0) (a0 := (40, .inl fun _ => 0)) (k := 8) (i := 4) (w' := fun _ _ => none) hx hb hts hK hI rfl q82 (fun cA => by rw [vp_cell_i]; rfl) (by decide) (N := 40) rfl (Nat.le_of_ble_eq_true rfl) (Nat.le_of_ble_eq_true rfl) (Nat.le_of_ble_eq_true rfl) (by rw [fU_ne (by decide), fU_ne (by decide), fU_ne (by decide), fU_ne (by decide)]; exact xW_8) (fun _ => rfl) dL_law_32 (fun N4 hI z6 => ?_)
  generalize N3.size = h4 at hI ⊢
  refine lv_astore (lv' := [(6, .ref h4), (5, .ref h3), (4, .ref h2), (3, .ref h1), (2, .ref h0), (1, .ref a0), (0, .ref b)]) hx hb dL_law_34 hl (by decide) rfl (fun ls hl => ?_)
  refine lv_bipush (v := 10) hx hb dL_law_36 (by decide) ?_
  refine fx_newa (atype := .int) (kt := 0) (a0 := (10, .inl fun _ => 0)) (k := 8) (i := 5) (w' := fun _ _ => none) hx hb hts hK hI rfl q82 (fun cA => by rw [vp_cell_i]; rfl) (by decide) (N := 10) rfl (Nat.le_of_ble_eq_true rfl) (Nat.le_of_ble_eq_true rfl) (Nat.le_of_ble_eq_true rfl) (by rw [fU_ne (by decide), fU_ne (by decide), fU_ne (by decide), fU_ne (by decide), fU_ne (by decide)]; exact xW_8) (fun _ => rfl) dL_law_38 (fun N5 hI z7 => ?_)
  generalize N4.size = h5 at hI ⊢
  refine lv_astore (lv' := [(7, .ref h5), (6, .ref h4), (5, .ref h3), (4, .ref h2), (3, .ref h1), (2, .ref h0), (1, .ref a0), (0, .ref b)]) hx hb dL_law_40 hl (by decide) rfl (fun ls hl => ?_)
  refine lv_iconst (v := 5) hx hb dL_law_42 (by decide) ?_
  refine fx_newa (atype := .int) (kt := 0) (a0 := (5, .inl fun _ => 0)) (k := 8) (i := 6) (w' := fun _ _ => none) hx hb hts hK hI rfl q82 (fun cA => by rw [vp_cell_i]; rfl) (by decide) (N := 5) rfl (Nat.le_of_ble_eq_true rfl) (Nat.le_of_ble_eq_true rfl) (Nat.le_of_ble_eq_true rfl) (by rw [fU_ne (by decide), fU_ne (by decide), fU_ne (by decide), fU_ne (by decide), fU_ne (by decide), fU_ne (by decide)]; exact xW_8) (fun _ => rfl) dL_law_43 (fun N6 hI z8 => ?_)
  generalize N5.size = h6 at hI ⊢
  refine lv_astore (lv' := [(8, .ref h6), (7, .ref h5), (6, .ref h4), (5, .ref h3), (4, .ref h2), (3, .ref h1), (2, .ref h0), (1, .ref a0), (0, .ref b)]) hx hb dL_law_45 hl (by decide) rfl (fun ls hl => ?_)
  rw [wl_start] at hI
  obtain ⟨la, ela⟩ : ∃ la : Nat → Nat, la = laF h0 h1 h2 h3 h4 h5 h6 := ⟨_, rfl⟩
  have hl : lv_has ls 14 [(8, .ref (la 6)), (7, .ref (la 5)), (6, .ref (la 4)), (5, .ref (la 3)), (4, .ref (la 2)), (3, .ref (la 1)), (2, .ref (la 0)), (1, .ref a0), (0, .ref b)] := by rw [ela]; exact hl
  rw [← ela] at hI
  clear ela
  refine lv_aload hx hb dL_law_47 (lv_at hl 0 rfl) ?_
  refine lv_iconst (v := 2) hx hb dL_law_49 (by decide) ?_
  refine lv_iconst (v := 5) hx hb dL_law_50 (by decide) ?_
  refine sA (k := 6) (n := 5) (q := 2) (S1 := L1) hx hb hK hI (by decide) rfl (by unfold vp_in; decide) (by decide) rfl dL_law_51 (fun H locs hI => ?_)
  have hR := RR_0 a0 adx
  have hx0 : (XZ0 a0 adx).A 0 0 = a0 := rfl
  have hl : lv_has ls 14 [(8, .ref (la 6)), (7, .ref (la 5)), (6, .ref (la 4)), (5, .ref (la 3)), (4, .ref (la 2)), (3, .ref (la 1)), (2, .ref (la 0)), (1, .ref ((XZ0 a0 adx).A 0 0)), (0, .ref b)] := hl
  obtain ⟨Z, eZ⟩ : ∃ Z : XZ, Z = XZ0 a0 adx := ⟨_, rfl⟩
  have hN0 : Z.N 0 = 0 := by rw [eZ]; rfl
  have hN1 : Z.N 1 = 0 := by rw [eZ]; rfl
  rw [← eZ] at hR hx0 hI hl
  clear eZ
  generalize XS0 = S at hR hI
  generalize MS0 = M at hR
  refine lv_aload_n hx hb dL_law_52 rfl (lv_at hl 7 rfl) ?_
  refine lv_bipush (v := 9) hx hb dL_law_53 (by decide) ?_
  refine lv_sipush (v := 1000) hx hb dL_law_55 (by decide) ?_
  refine lv_iconst (v := 0) hx hb dL_law_58 (by decide) ?_
  refine lv_bipush (v := 10) hx hb dL_law_59 (by decide) ?_
  refine jx_callH (rest := []) (as := [.ref (Z.A 0 0), .int 9, .int (1000), .int 0, .int 10]) hx hb hml hts hown hK hE Dj_xl hI (qD_vehicle G hst0 Z S (1000) 0 10 hR.1.1.1 hR.1.1.2.1) kw_does ⟨(Nat.le_of_ble_eq_true rfl), (Nat.le_of_ble_eq_true rfl)⟩ hl.1 (Nat.le_of_ble_eq_true rfl) dL_law_61 ⟨(Nat.le_of_ble_eq_true rfl), (Nat.le_of_ble_eq_true rfl)⟩ (fun v w1 H locs hpE hI => ?_)
  obtain ⟨rfl, Z_1, S_1, M_1, hR_1, hA_1, rfl⟩ := fv0c hR (by decide) ⟨by decide, by decide, by decide⟩ (RR_N1 hR).2 hpE
  rw [← hA_1] at hl
  have hx0_1 := hA_1.trans hx0
  refine lv_ldc (v := -10000000) hx hb hown (hts _ q654) dL_law_64 ?_
  refine lv_icmp_ne (tgt := 137) hx hb dL_law_66 (by decide) (fun h9 => absurd rfl h9) (fun _ => ?_)
  refine lv_aload_n hx hb dL_law_69 rfl (lv_at hl 7 rfl) ?_
  refine lv_iconst (v := 0) hx hb dL_law_70 (by decide) ?_
  refine lv_iconst (v := 3) hx hb dL_law_71 (by decide) ?_
  refine lv_iconst (v := 1) hx hb dL_law_72 (by decide) ?_
  refine lv_iconst (v := 1) hx hb dL_law_73 (by decide) ?_
  refine jx_callH (rest := []) (as := [.ref (Z_1.A 0 0), .int 0, .int (3), .int 1, .int 1]) hx hb hml hts hown hK hE Dj_xl hI (qD_piece G hst0 Z_1 S_1 (3) 1 1 hR_1.1.1.1 hR_1.1.1.2.1) kw_does ⟨(Nat.le_of_ble_eq_true rfl), (Nat.le_of_ble_eq_true rfl)⟩ hl.1 (Nat.le_of_ble_eq_true rfl) dL_law_74 ⟨(Nat.le_of_ble_eq_true rfl), (Nat.le_of_ble_eq_true rfl)⟩ (fun v w1 H locs hpE hI => ?_)
  obtain ⟨rfl, Z_2, S_2, M_2, hR_2, hA_2, rfl⟩ := fi0a hR_1 (by decide) (by decide) hpE
  rw [← hA_2] at hl
  have hx0_2 := hA_2.trans hx0_1
  refine lv_ldc (v := -20000000) hx hb hown (hts _ q653) dL_law_77 ?_
  refine lv_icmp_ne (tgt := 137) hx hb dL_law_79 (by decide) (fun h9 => absurd rfl h9) (fun _ => ?_)
  refine lv_aload_n hx hb dL_law_82 rfl (lv_at hl 7 rfl) ?_
  refine lv_bipush (v := 14) hx hb dL_law_83 (by decide) ?_
  refine lv_iconst (v := 0) hx hb dL_law_85 (by decide) ?_
  refine lv_iconst (v := 0) hx hb dL_law_86 (by decide) ?_
  refine lv_iconst (v := 0) hx hb dL_law_87 (by decide) ?_
  refine jx_callH (rest := []) (as := [.ref (Z_2.A 0 0), .int 14, .int (0), .int 0, .int 0]) hx hb hml hts hown hK hE Dj_xl hI (qD_pass G hst0 Z_2 S_2 (0) 0 0 hR_2.1.1.1 hR_2.1.1.2.1) kw_does ⟨(Nat.le_of_ble_eq_true rfl), (Nat.le_of_ble_eq_true rfl)⟩ hl.1 (Nat.le_of_ble_eq_true rfl) dL_law_88 ⟨(Nat.le_of_ble_eq_true rfl), (Nat.le_of_ble_eq_true rfl)⟩ (fun v w1 H locs hpE hI => ?_)
  obtain ⟨rfl, Z_3, S_3, M_3, hR_3, hA_3, rfl⟩ := ft3b hR_2 (by decide) (by decide) hpE
  rw [← hA_3] at hl
  have hx0_3 := hA_3.trans hx0_2
  refine lv_ldc (v := -20000000) hx hb hown (hts _ q653) dL_law_91 ?_
  refine lv_icmp_ne (tgt := 137) hx hb dL_law_93 (by decide) (fun h9 => absurd rfl h9) (fun _ => ?_)
  refine lv_aload_n hx hb dL_law_96 rfl (lv_at hl 7 rfl) ?_
  refine lv_bipush (v := 17) hx hb dL_law_97 (by decide) ?_
  refine lv_iconst (v := 0) hx hb dL_law_99 (by decide) ?_
  refine lv_iconst (v := 0) hx hb dL_law_100 (by decide) ?_
  refine lv_iconst (v := 0) hx hb dL_law_101 (by decide) ?_
  refine jx_callH (rest := []) (as := [.ref (Z_3.A 0 0), .int 17, .int (0), .int 0, .int 0]) hx hb hml hts hown hK hE Dj_xl hI (qD_why G hst0 Z_3 S_3 (0) 0 0 hR_3.1.1.1 hR_3.1.1.2.1) kw_does ⟨(Nat.le_of_ble_eq_true rfl), (Nat.le_of_ble_eq_true rfl)⟩ hl.1 (Nat.le_of_ble_eq_true rfl) dL_law_102 ⟨(Nat.le_of_ble_eq_true rfl), (Nat.le_of_ble_eq_true rfl)⟩ (fun v w1 H locs hpE hI => ?_)
  obtain ⟨rfl, rfl⟩ := no_why hR_3 (by decide) (RR_N1 hR_3).1 hpE
  refine lv_ldc (v := -30000000) hx hb hown (hts _ q652) dL_law_105 ?_
  refine lv_icmp_ne (tgt := 137) hx hb dL_law_107 (by decide) (fun h9 => absurd rfl h9) (fun _ => ?_)
  refine lv_aload_n hx hb dL_law_110 rfl (lv_at hl 7 rfl) ?_
  refine lv_bipush (v := 13) hx hb dL_law_111 (by decide) ?_
  refine lv_iconst (v := 3) hx hb dL_law_113 (by decide) ?_
  refine lv_iconst (v := 1) hx hb dL_law_114 (by decide) ?_
  refine lv_iconst (v := 0) hx hb dL_law_115 (by decide) ?_
  refine jx_callH (rest := []) (as := [.ref (Z_3.A 0 0), .int 13, .int (nI 3), .int 1, .int 0]) hx hb hml hts hown hK hE Dj_xl hI (qD_order G hst0 Z_3 S_3 (nI 3) 1 0) kw_does ⟨(Nat.le_of_ble_eq_true rfl), (Nat.le_of_ble_eq_true rfl)⟩ hl.1 (Nat.le_of_ble_eq_true rfl) dL_law_116 ⟨(Nat.le_of_ble_eq_true rfl), (Nat.le_of_ble_eq_true rfl)⟩ (fun v w1 H locs hpE hI => ?_)
  obtain ⟨rfl, Z_4, S_4, M_4, hR_4, hA_4, rfl⟩ := ft1a (x := L1 5 9) hR_3 (by decide) hpE
  rw [lset_id] at hR_4
  rw [← hA_4] at hl
  have hx0_4 := hA_4.trans hx0_3
  refine lv_ldc (v := -30000000) hx hb hown (hts _ q652) dL_law_119 ?_
  refine lv_icmp_ne (tgt := 137) hx hb dL_law_121 (by decide) (fun h9 => absurd rfl h9) (fun _ => ?_)
  refine lv_aload_n hx hb dL_law_124 rfl (lv_at hl 7 rfl) ?_
  refine jx_callV (rest := []) (as := []) hx hb hml hts hown hK hE Dj_xl hI (cX_bill G Z_4 S_4) kLX_147 ⟨(Nat.le_of_ble_eq_true rfl), (Nat.le_of_ble_eq_true rfl)⟩ (kk := 0) (ii := 0) (xW0 (by decide)) rfl rfl hl.1 (Nat.le_of_ble_eq_true rfl) dL_law_125 ⟨(Nat.le_of_ble_eq_true rfl), (Nat.le_of_ble_eq_true rfl)⟩ (fun v w' H locs hp hI => ?_)
  obtain ⟨rfl, rfl⟩ := hp
  rw [vbill hR_4 (by decide), cost_0]
  refine lv_lconst (v := 0) hx hb dL_law_128 (by decide) ?_
  refine W.lcmp hx hb dL_law_129 ?_
  refine lv_if_ne (tgt := 137) hx hb dL_law_130 (by decide) (fun h9 => absurd (lg_self _) h9) (fun _ => ?_)
  refine lv_iconst (v := 1) hx hb dL_law_133 (by decide) ?_
  refine lv_goto (tgt := 138) hx hb dL_law_134 (by decide) ?_
  refine lv_istore (lv' := [(9, .int 1), (8, .ref (la 6)), (7, .ref (la 5)), (6, .ref (la 4)), (5, .ref (la 3)), (4, .ref (la 2)), (3, .ref (la 1)), (2, .ref (la 0)), (1, .ref (Z_4.A 0 0)), (0, .ref b)]) hx hb dL_law_138 hl (by decide) rfl (fun ls hl => ?_)
  refine lv_iconst (v := nI 0) hx hb dL_law_140 (by decide +kernel) ?_
  refine lv_istore (lv' := [(10, .int (nI 0)), (9, .int 1), (8, .ref (la 6)), (7, .ref (la 5)), (6, .ref (la 4)), (5, .ref (la 3)), (4, .ref (la 2)), (3, .ref (la 1)), (2, .ref (la 0)), (1, .ref (Z_4.A 0 0)), (0, .ref b)]) hx hb dL_law_141 hl (by decide) rfl (fun ls hl => ?_)
  refine W.widen (k := 1000 + 388 * 0) (n := 10000 + 3100 * 0) (Nat.le_of_ble_eq_true rfl) (Nat.le_of_ble_eq_true rfl) ?_
  exact law_loop CC hL KE 64 0 (by decide) _ _ _ _ _ _ _ hR_4 rfl hI (lv_sub hl [1, 0, 10, 9, 8, 7, 6, 5, 4, 3, 2] rfl)
set_option maxHeartbeats 4000000 in
theorem lw_walk (l : Launch) (hflags : l.flags = flags0) (b : Addr) (xs : List Int32) : MetFree l x (headSpec (Jvm.Cond.code x code maxLocals ret :: tables_1) room_1) (lw_P b xs) (fun _ _ _ _ _ => True) lw_Q := by
  refine MetFree.of_bodyS (code := code) (maxLocals := maxLocals) (ret := ret) (by decide) ?_ ?_
  · intro args s m h hn
    obtain ⟨meth, c, h1, h2, h3, h4, h5, h6, -, -⟩ := Cond.code_spec hn (atoms_spec (ws := Jvm.Cond.code x code maxLocals ret :: tables_1) h _ List.mem_cons_self)
    exact ⟨meth, c, h1, h2, h3, h4, h5, h6⟩
  · intro p e s m args below meth c s₁ B hml0 hP _
    obtain ⟨rfl, hx, hbd, hgv⟩ := hP
    obtain ⟨scr, harrAt, hlist, hof, hsmall⟩ := hx
    obtain ⟨hcb, hkn, -, -⟩ := State.arrayAt?_spec harrAt
    have hown : s.vm.findClass R_law = some m.cls := findClass_of_methodNamed B.named
    have hts0 : ∀ c ∈ (Jvm.Cond.code x code maxLocals ret :: tables_1), c.before #[Value.ref b] s = true := atoms_spec (ws := Jvm.Cond.code x code maxLocals ret :: tables_1) B.pre
    have hts : ∀ w ∈ lw_tbl, w.before #[Value.ref b] s = true := k2_hts_sels lw_privs (fun w hw => hts0 w (List.mem_cons_of_mem _ hw)) lw_privs_ok
    have hml : c.maxLocals = 14 := B.maxLocals_eq (hts0 _ List.mem_cons_self)
    have X₀ : Stand p l e room_1 s m #[Value.ref b] below meth c s₁ [] 0 0 := Stand.of_body B
    have hh0 : s₁.heap = s.heap := by rw [B.state]; rfl
    have hsz : scr.slots.size = xs.length := by rw [← Array.length_toList, hlist, List.length_map]
    have hval : ∀ j : Nat, j < xs.length → scr.slots[j]? = some (.int (xs.getD j 0)) := fun j hj => by
      rw [← Array.getElem?_toList, hlist]
      simp [hj]
    have hbl : b < s.heap.size := (Array.getElem?_eq_some_iff.mp hcb).1
    have hX : va_X b xs.length (fun j => xs.getD j 0) s s.heap := ⟨scr, hcb, hof, hkn, hsz, hval⟩
    have K : W p l e room_1 s m #[Value.ref b] below meth c s₁.heap [] 0 0 (lw_Z below #[Value.ref b] s) (entryFrame m ([Value.ref b] : List Value).toArray 14) := by
      rw [hh0]
      exact whole_start l hflags hbd ⟨B.exec, B.bytes, B.returns, hml, hown, hts, hX, hbl, B.notSynchronized, hgv⟩
    obtain ⟨t, a1, o, b1, b2, b3⟩ := K s₁ rfl X₀
    exact ⟨t, o, a1, b1, b2, b3⟩
theorem lw_pre_spec {args : Array Value} {s : State} (h : (Jvm.Cond.and given_1 narrow_1).before args s = true) (hr : rest_1_c.before args s = true) : ∃ (b : Addr) (xs : List Int32), lw_P b xs args s := by
  have hs := flat_of_before _ h
  have hq := flat_of_before _ hr
  have hc : (Cond.count 1).before args s = true := hs _ (by decide +kernel)
  have harr : (Cond.arrayOf (.arg 0) .int).before args s = true := hs _ (by decide +kernel)
  have hle : (Cond.le (.length (.arg 0)) (.int 260)).before args s = true := hs _ (by decide +kernel)
  have hlen : (Cond.isInt (.length (.arg 0))).before args s = true := hq _ (by decide +kernel)
  have hall : (Cond.all (.arg 0) (.isInt (.elem (.arg 0) (.index 0)))).before args s = true := hq _ (by decide +kernel)
  obtain ⟨b, xs, hb, hx⟩ := State.ints_of_pre rfl harr hlen hall
  have hsm : xs.length < 2 ^ 31 := hx.choose_spec.2.2.2
  have hev : (Term.length (.arg 0)).eval args s none [] s = some (.int xs.length.toInt32) := hx.length_eval hb
  have hv := Cond.le_ints hev (show (Term.int 260).eval args s none [] s = some (.int 260) from rfl)
  have hd : xs.length.toInt32 ≤ 260 := by
    simpa [Cond.before, Cond.holds, hv] using hle
  have hN : xs.length ≤ 260 := (Int32.ofNat_le_ofNat hsm (by decide)).mp (show Int32.ofNat xs.length ≤ Int32.ofNat 260 from hd)
  exact ⟨b, xs, Cond.one_arg hc (show args[0]? = some (.ref b) from hb), hx, hN, h⟩
theorem lw_comes (l : Launch) (hflags : l.flags = flags0) : Comes l x (Jvm.Cond.code x code maxLocals ret :: tables_1) room_1 (fun tb e args s => Calls_1 tb e args s ∧ rest_1 tb e args s ∧ Pre_1 tb e args s)
    (fun _ _ args s o t => lw_Q args s o t) := by
  intro p e ha hc hk s m args below hf hfit hheap happ hpre
  obtain ⟨b, xs, hP⟩ := lw_pre_spec hpre.2.2 hpre.2.1
  obtain ⟨k, o, h1, h2, h3, hQ⟩ := lw_walk l hflags b xs p e ha hc hk s m args below hf ((Spec.applies_iff_loose hf).mp happ).1 hP trivial
  exact ⟨k, o, h1, h2, h3, hQ⟩
theorem lw_frame {s t : State} {o : Outcome} {args : Array Value} (h : State.butDraws s t lw_cs (fun t1 => Framed s o t1 [] 799779 6702131)) :
    State.butDraws s t [Jvm.Choice.named "NaN.bits"] (fun t1 => Framed s o t1 (fieldLocs frame_1_writes args s ++ arrayLocs frame_1_arrays args s ++ staticLocs frame_1_statics s) 799779 6702131) := h
theorem lw_limb (L : Cond) (hL : ∀ (args : Array Value) (s t : State), L.after args s (.returned (some (.int 1))) t = true) :
    ArmFor flags0 classFile x code maxLocals ret World_1 tables_1 room_1 Calls_1 rest_1 Pre_1
      (fun tb e a s o t => postC L tb e a s o t ∧ State.butDraws s t [Jvm.Choice.named "NaN.bits"] (fun t1 => Framed s o t1 (fieldLocs frame_1_writes a s ++ arrayLocs frame_1_arrays a s ++ staticLocs frame_1_statics s) 799779 6702131)) := by
  intro l hflags _ _ p e ha hc hk s m args below hf hfit hheap happ hpre
  obtain ⟨k, o, h1, h2, h3, rfl, hF⟩ := lw_comes l hflags p e ha hc hk s m args below hf hfit hheap happ hpre
  exact ⟨k, _, h1, h2, h3, hL args s _, lw_frame hF⟩
theorem i_vc : Claimed_1_1 ∧ Claimed_1_2 := ⟨lw_limb limb_1_1 (fun args s t => by simp [limb_1_1, Cond.after, Cond.holds, Cond.value]), lw_limb limb_1_2 (fun args s t => Cond.after_iff.mpr (by
  first | (rw [show limb_1_2 = Cond.eq .result (.int 1) from rfl, Cond.eq_ints (x := 1) (y := 1) rfl rfl]; simp; done) | (simp [limb_1_2, Cond.value, Term.eval]; done)))⟩
