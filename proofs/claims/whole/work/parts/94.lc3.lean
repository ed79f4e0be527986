/-! ===== the law, call by call ===== -/
theorem kLM_143 : CkV "IcehighwayLaw" 143 yX4_load cX4_load 6 (some .int) 3 := ⟨q920, q917, q918, q919, q5, by decide +kernel⟩
set_option maxHeartbeats 4000000 in
set_option maxRecDepth 100000 in
theorem law_c10 {p : Program} {e : Env} {s : State} {m : MethodId} {below : List Frame} {meth : Method} {c : Code} {b L : Nat} {xs : Nat → Int32} {Q : State → Prop} {G : GX} {A : Nat → Prop} (C0 : LCtx p s m c b L xs G A) (hL : L ≤ 2048) {t : Nat} (hi : 4 * t + 4 ≤ L) {Z : XZ} {S : XS} {M : MS} {ad : Nat → Nat} {bo bd : Nat} {f : Nat → Int64} {g : Nat → UInt64} {H : Heap} {locs : List Loc} {ls : Array Slot} {cells slots : Nat} (h : RXA Z S M t) (hI : fI G.2.2.1 A s.heap (FW G.2.2.2 G.2.1 Z S ad M bo f bd g) H locs) (hl : lv_has ls 9 [(5, .int (nI (4 * t))), (4, .ref bd), (3, .ref bo), (2, .ref (ad 0)), (1, .ref (Z.A 0 0)), (0, .ref b)]) (hcs : cells + 5 ≤ 601024 ∧ slots + 802 ≤ 7293034) (K : LK p e s m below meth c b Q G A ad bo bd (Z.A 0 0) t cells slots) : W p G.1 e room_1 s m #[Value.ref b] below meth c H locs cells slots Q (F0 m 833 ls []) := by
  obtain ⟨hx, hb, hml, hts, hown, hK, hE, hX, hbl, hbA, hst0⟩ := C0
  have ht : t < 512 := by omega
  obtain ⟨a1, ea1⟩ : ∃ z, z = xs (nI (4 * t) + 1).toNatClampNeg := ⟨_, rfl⟩
  have hin1 : vp_in (nI (4 * t) + 1) L := sc_in (k := 1) rfl (by omega) hL
  obtain ⟨a2, ea2⟩ : ∃ z, z = xs (nI (4 * t) + 2).toNatClampNeg := ⟨_, rfl⟩
  have hin2 : vp_in (nI (4 * t) + 2) L := sc_in (k := 2) rfl (by omega) hL
  obtain ⟨a3, ea3⟩ : ∃ z, z = xs (nI (4 * t) + 3).toNatClampNeg := ⟨_, rfl⟩
  have hin3 : vp_in (nI (4 * t) + 3) L := sc_in (k := 3) rfl (by omega) hL
  have hst := st_load h ht a1 a2 a3
  refine lv_aload_n hx hb dL_law_833 rfl (lv_at hl 4 rfl) ?_
  refine lv_aload_n hx hb dL_law_834 rfl (lv_at hl 5 rfl) ?_
  refine lv_iload hx hb dL_law_835 (lv_at hl 0 rfl) ?_
  refine lv_iconst (v := 1) hx hb dL_law_837 (by decide) ?_
  refine lv_iadd hx hb dL_law_838 ?_
  refine va_sld hx hb hX hbl hbA hI.2.2.1 hin1 dL_law_839 ?_
  rw [← ea1]
  refine lv_aload_n hx hb dL_law_840 rfl (lv_at hl 5 rfl) ?_
  refine lv_iload hx hb dL_law_841 (lv_at hl 0 rfl) ?_
  refine lv_iconst (v := 2) hx hb dL_law_843 (by decide) ?_
  refine lv_iadd hx hb dL_law_844 ?_
  refine va_sld hx hb hX hbl hbA hI.2.2.1 hin2 dL_law_845 ?_
  rw [← ea2]
  refine lv_aload_n hx hb dL_law_846 rfl (lv_at hl 5 rfl) ?_
  refine lv_iload hx hb dL_law_847 (lv_at hl 0 rfl) ?_
  refine lv_iconst (v := 3) hx hb dL_law_849 (by decide) ?_
  refine lv_iadd hx hb dL_law_850 ?_
  refine va_sld hx hb hX hbl hbA hI.2.2.1 hin3 dL_law_851 ?_
  rw [← ea3]
  refine lv_aload_n hx hb dL_law_852 rfl (lv_at hl 2 rfl) ?_
  have hI1 : fI G.2.2.1 A s.heap (jn (jn (xW G.2.2.2 G.2.1 Z S) (oW G.2.2.2 bo f)) (jn (mW G.2.2.2 ad M) (oD G.2.2.2 bd g))) H locs := by rw [FW_w]; exact hI
  refine jx_callH (rest := []) (as := [.ref (Z.A 0 0), .int a1, .int a2, .int a3, .ref bo]) hx hb hml hts hown hK hE Dj_w hI1 (cL_loadw G hst0 Z S bo f a1 a2 a3 h.1.1 h.1.2.1) kH_load ⟨(Nat.le_of_ble_eq_true rfl), (Nat.le_of_ble_eq_true rfl)⟩ hl.1 (Nat.le_of_ble_eq_true rfl) dL_law_853 ⟨by show cells + 5 ≤ 601024; omega, by show slots + 789 ≤ 7293034; omega⟩ (fun v w' H locs hp hI => ?_)
  rcases hp with ⟨x9, w9, ⟨hT, h1, h2, hx9, rfl⟩, rfl, rfl⟩ | ⟨E9, ⟨hT, hw9⟩, rfl, rfl⟩
  · rcases hst with ⟨sT, s29, hst2⟩ | ⟨E, sT, -⟩
    rotate_left
    · exact absurd (hT.symm.trans sT) (fun z => nomatch z)
    obtain ⟨sx, hR⟩ := hst2 h1 h2
    cases hx9
    rw [FW_w] at hI
    refine lv_istore (lv' := [(6, .int (0)), (5, .int (nI (4 * t))), (4, .ref bd), (3, .ref bo), (2, .ref (ad 0)), (1, .ref (Z.A 0 0)), (0, .ref b)]) hx hb dL_law_856 hl (by decide) rfl (fun ls hl => ?_)
    refine lv_aload_n hx hb dL_law_858 rfl (lv_at hl 4 rfl) ?_
    refine lv_aload_n hx hb dL_law_859 rfl (lv_at hl 6 rfl) ?_
    refine lv_iload hx hb dL_law_860 (lv_at hl 1 rfl) ?_
    refine lv_iconst (v := 1) hx hb dL_law_862 (by decide) ?_
    refine lv_iadd hx hb dL_law_863 ?_
    refine va_sld hx hb hX hbl hbA hI.2.2.1 hin1 dL_law_864 ?_
    rw [← ea1]
    refine lv_aload_n hx hb dL_law_865 rfl (lv_at hl 6 rfl) ?_
    refine lv_iload hx hb dL_law_866 (lv_at hl 1 rfl) ?_
    refine lv_iconst (v := 2) hx hb dL_law_868 (by decide) ?_
    refine lv_iadd hx hb dL_law_869 ?_
    refine va_sld hx hb hX hbl hbA hI.2.2.1 hin2 dL_law_870 ?_
    rw [← ea2]
    refine lv_aload_n hx hb dL_law_871 rfl (lv_at hl 6 rfl) ?_
    refine lv_iload hx hb dL_law_872 (lv_at hl 1 rfl) ?_
    refine lv_iconst (v := 3) hx hb dL_law_874 (by decide) ?_
    refine lv_iadd hx hb dL_law_875 ?_
    refine va_sld hx hb hX hbl hbA hI.2.2.1 hin3 dL_law_876 ?_
    rw [← ea3]
    have hI2 := hI
    rw [← FW_m] at hI2
    refine jx_callV (rest := []) (as := [.int a1, .int a2, .int a3]) hx hb hml hts hown hK hE Dj_m hI2 (cM_load G ad M a1 a2 a3 h.2.1.1) kLM_143 ⟨(Nat.le_of_ble_eq_true rfl), (Nat.le_of_ble_eq_true rfl)⟩ (kk := 4) (ii := 0) rfl rfl rfl hl.1 (Nat.le_of_ble_eq_true rfl) dL_law_877 ⟨by show cells + 5 + 0 ≤ 601024; omega, by show slots + 789 + 0 ≤ 7293034; omega⟩ (fun v w' H locs hp hI => ?_)
    obtain ⟨rfl, rfl⟩ := hp
    rw [FW_m] at hI
    refine lv_istore (lv' := [(7, .int (M_load M a1 a2 a3).1), (6, .int (0)), (5, .int (nI (4 * t))), (4, .ref bd), (3, .ref bo), (2, .ref (ad 0)), (1, .ref (Z.A 0 0)), (0, .ref b)]) hx hb dL_law_880 hl (by decide) rfl (fun ls hl => ?_)
    refine lv_aload_n hx hb dL_law_882 rfl (lv_at hl 5 rfl) ?_
    have hI3 := hI
    rw [← FW_m] at hI3
    refine jx_callV (rest := []) (as := []) hx hb hml hts hown hK hE Dj_m hI3 (cM_thrown G ad (M_load M a1 a2 a3).2) kLM_107 ⟨(Nat.le_of_ble_eq_true rfl), (Nat.le_of_ble_eq_true rfl)⟩ (kk := 4) (ii := 0) rfl rfl rfl hl.1 (Nat.le_of_ble_eq_true rfl) dL_law_883 ⟨by show cells + 5 + 0 + 0 ≤ 601024; omega, by show slots + 789 + 0 + 0 ≤ 7293034; omega⟩ (fun v w' H locs hp hI => ?_)
    obtain ⟨rfl, rfl⟩ := hp
    rw [FW_m] at hI
    refine lv_iload (rest := [.int (M_thrown (M_load M a1 a2 a3).2)]) hx hb dL_law_886 (lv_at hl 1 rfl) ?_
    refine lv_icmp_eq (tgt := 893) hx hb dL_law_888 (by decide) (fun _ => ?_) (fun h0 => absurd s29 h0)
    refine lv_iload hx hb dL_law_893 (lv_at hl 1 rfl) ?_
    refine lv_if_ne (tgt := 910) hx hb dL_law_895 (by decide) (fun h0 => absurd rfl h0) (fun _ => ?_)
    refine lv_aload_n hx hb dL_law_898 rfl (lv_at hl 4 rfl) ?_
    refine lv_iconst (v := 0) hx hb dL_law_899 (by decide) ?_
    refine fx_lald (k := 10) (j := 0) (n := 1) hx hb hK hI FW_10 (i := 0) (by unfold vp_in; decide) dL_law_900 ?_
    refine lv_iload hx hb dL_law_901 (lv_at hl 0 rfl) ?_
    refine lv_i2l hx hb dL_law_903 rfl ?_
    refine W.lcmp hx hb dL_law_904 ?_
    refine lv_if_eq (tgt := 910) hx hb dL_law_905 (by decide) (fun _ => ?_) (fun h0 => absurd (cmpI sx) h0)
    refine lv_goto (tgt := 1899) hx hb dL_law_910 (by decide) ?_
    refine W.widen (k := cells + 5) (n := slots + 802) (by show cells + 5 + 0 + 0 ≤ cells + 5; omega) (by show slots + 789 + 0 + 0 ≤ slots + 802; omega) ?_
    exact K _ _ _ _ _ _ _ _ hR (zA_A (by decide) (by decide)) hI (lv_sub hl [2, 3, 4, 5, 6, 7] rfl)
  · rcases hst with ⟨sT, -⟩ | ⟨E, sT, s29, hR⟩
    · exact absurd (hT.symm.trans sT) (fun z => nomatch z)
    have hEE : E = E9 := Option.some.inj (sT.symm.trans hT)
    subst hEE
    rw [FW_w] at hI
    refine lv_istore (lv' := [(6, .int (cdL EIOB EIAE E)), (5, .int (nI (4 * t))), (4, .ref bd), (3, .ref bo), (2, .ref (ad 0)), (1, .ref (Z.A 0 0)), (0, .ref b)]) hx hb dL_law_856 hl (by decide) rfl (fun ls hl => ?_)
    refine lv_aload_n hx hb dL_law_858 rfl (lv_at hl 4 rfl) ?_
    refine lv_aload_n hx hb dL_law_859 rfl (lv_at hl 6 rfl) ?_
    refine lv_iload hx hb dL_law_860 (lv_at hl 1 rfl) ?_
    refine lv_iconst (v := 1) hx hb dL_law_862 (by decide) ?_
    refine lv_iadd hx hb dL_law_863 ?_
    refine va_sld hx hb hX hbl hbA hI.2.2.1 hin1 dL_law_864 ?_
    rw [← ea1]
    refine lv_aload_n hx hb dL_law_865 rfl (lv_at hl 6 rfl) ?_
    refine lv_iload hx hb dL_law_866 (lv_at hl 1 rfl) ?_
    refine lv_iconst (v := 2) hx hb dL_law_868 (by decide) ?_
    refine lv_iadd hx hb dL_law_869 ?_
    refine va_sld hx hb hX hbl hbA hI.2.2.1 hin2 dL_law_870 ?_
    rw [← ea2]
    refine lv_aload_n hx hb dL_law_871 rfl (lv_at hl 6 rfl) ?_
    refine lv_iload hx hb dL_law_872 (lv_at hl 1 rfl) ?_
    refine lv_iconst (v := 3) hx hb dL_law_874 (by decide) ?_
    refine lv_iadd hx hb dL_law_875 ?_
    refine va_sld hx hb hX hbl hbA hI.2.2.1 hin3 dL_law_876 ?_
    rw [← ea3]
    have hI2 := hI
    rw [← FW_m] at hI2
    refine jx_callV (rest := []) (as := [.int a1, .int a2, .int a3]) hx hb hml hts hown hK hE Dj_m hI2 (cM_load G ad M a1 a2 a3 h.2.1.1) kLM_143 ⟨(Nat.le_of_ble_eq_true rfl), (Nat.le_of_ble_eq_true rfl)⟩ (kk := 4) (ii := 0) rfl rfl rfl hl.1 (Nat.le_of_ble_eq_true rfl) dL_law_877 ⟨by show cells + 5 + 0 ≤ 601024; omega, by show slots + 789 + 0 ≤ 7293034; omega⟩ (fun v w' H locs hp hI => ?_)
    obtain ⟨rfl, rfl⟩ := hp
    rw [FW_m] at hI
    refine lv_istore (lv' := [(7, .int (M_load M a1 a2 a3).1), (6, .int (cdL EIOB EIAE E)), (5, .int (nI (4 * t))), (4, .ref bd), (3, .ref bo), (2, .ref (ad 0)), (1, .ref (Z.A 0 0)), (0, .ref b)]) hx hb dL_law_880 hl (by decide) rfl (fun ls hl => ?_)
    refine lv_aload_n hx hb dL_law_882 rfl (lv_at hl 5 rfl) ?_
    have hI3 := hI
    rw [← FW_m] at hI3
    refine jx_callV (rest := []) (as := []) hx hb hml hts hown hK hE Dj_m hI3 (cM_thrown G ad (M_load M a1 a2 a3).2) kLM_107 ⟨(Nat.le_of_ble_eq_true rfl), (Nat.le_of_ble_eq_true rfl)⟩ (kk := 4) (ii := 0) rfl rfl rfl hl.1 (Nat.le_of_ble_eq_true rfl) dL_law_883 ⟨by show cells + 5 + 0 + 0 ≤ 601024; omega, by show slots + 789 + 0 + 0 ≤ 7293034; omega⟩ (fun v w' H locs hp hI => ?_)
    obtain ⟨rfl, rfl⟩ := hp
    rw [FW_m] at hI
    refine lv_iload (rest := [.int (M_thrown (M_load M a1 a2 a3).2)]) hx hb dL_law_886 (lv_at hl 1 rfl) ?_
    refine lv_icmp_eq (tgt := 893) hx hb dL_law_888 (by decide) (fun _ => ?_) (fun h0 => absurd s29 h0)
    refine lv_iload hx hb dL_law_893 (lv_at hl 1 rfl) ?_
    refine lv_if_ne (tgt := 910) hx hb dL_law_895 (by decide) (fun _ => ?_) (fun h0 => absurd h0 cdL_ne)
    refine lv_goto (tgt := 1899) hx hb dL_law_910 (by decide) ?_
    refine W.widen (k := cells + 5) (n := slots + 802) (by show cells + 5 + 0 + 0 ≤ cells + 5; omega) (by show slots + 789 + 0 + 0 ≤ slots + 802; omega) ?_
    exact K _ _ _ _ _ _ _ _ hR rfl hI (lv_sub hl [2, 3, 4, 5, 6, 7] rfl)
theorem kLM_146 : CkV "IcehighwayLaw" 146 yX4_go cX4_go 3 (some .boolean) 1 := ⟨q935, q932, q933, q934, q5, by decide +kernel⟩
set_option maxHeartbeats 4000000 in
set_option maxRecDepth 100000 in
theorem law_c11 {p : Program} {e : Env} {s : State} {m : MethodId} {below : List Frame} {meth : Method} {c : Code} {b L : Nat} {xs : Nat → Int32} {Q : State → Prop} {G : GX} {A : Nat → Prop} (C0 : LCtx p s m c b L xs G A) (hL : L ≤ 2048) {t : Nat} (hi : 4 * t + 4 ≤ L) {Z : XZ} {S : XS} {M : MS} {ad : Nat → Nat} {bo bd : Nat} {f : Nat → Int64} {g : Nat → UInt64} {H : Heap} {locs : List Loc} {ls : Array Slot} {cells slots : Nat} (h : RXA Z S M t) (hI : fI G.2.2.1 A s.heap (FW G.2.2.2 G.2.1 Z S ad M bo f bd g) H locs) (hl : lv_has ls 9 [(5, .int (nI (4 * t))), (4, .ref bd), (3, .ref bo), (2, .ref (ad 0)), (1, .ref (Z.A 0 0)), (0, .ref b)]) (hcs : cells + 5 ≤ 601024 ∧ slots + 802 ≤ 7293034) (K : LK p e s m below meth c b Q G A ad bo bd (Z.A 0 0) t cells slots) : W p G.1 e room_1 s m #[Value.ref b] below meth c H locs cells slots Q (F0 m 913 ls []) := by
  obtain ⟨hx, hb, hml, hts, hown, hK, hE, hX, hbl, hbA, hst0⟩ := C0
  have ht : t < 512 := by omega
  obtain ⟨a1, ea1⟩ : ∃ z, z = xs (nI (4 * t) + 1).toNatClampNeg := ⟨_, rfl⟩
  have hin1 : vp_in (nI (4 * t) + 1) L := sc_in (k := 1) rfl (by omega) hL
  have hst := st_go h ht a1
  refine lv_aload_n hx hb dL_law_913 rfl (lv_at hl 4 rfl) ?_
  refine lv_aload_n hx hb dL_law_914 rfl (lv_at hl 5 rfl) ?_
  refine lv_iload hx hb dL_law_915 (lv_at hl 0 rfl) ?_
  refine lv_iconst (v := 1) hx hb dL_law_917 (by decide) ?_
  refine lv_iadd hx hb dL_law_918 ?_
  refine va_sld hx hb hX hbl hbA hI.2.2.1 hin1 dL_law_919 ?_
  rw [← ea1]
  refine lv_aload_n hx hb dL_law_920 rfl (lv_at hl 2 rfl) ?_
  have hI1 : fI G.2.2.1 A s.heap (jn (jn (xW G.2.2.2 G.2.1 Z S) (oW G.2.2.2 bo f)) (jn (mW G.2.2.2 ad M) (oD G.2.2.2 bd g))) H locs := by rw [FW_w]; exact hI
  refine jx_callH (rest := []) (as := [.ref (Z.A 0 0), .int a1, .ref bo]) hx hb hml hts hown hK hE Dj_w hI1 (cL_gow G hst0 Z S bo f a1 h.1.1) kH_go ⟨(Nat.le_of_ble_eq_true rfl), (Nat.le_of_ble_eq_true rfl)⟩ hl.1 (Nat.le_of_ble_eq_true rfl) dL_law_921 ⟨by show cells + 2 ≤ 601024; omega, by show slots + 12 ≤ 7293034; omega⟩ (fun v w' H locs hp hI => ?_)
  rcases hp with ⟨x9, w9, ⟨hT, hx9, rfl⟩, rfl, rfl⟩ | ⟨E9, ⟨hT, hw9⟩, rfl, rfl⟩
  · rcases hst with ⟨sT, s29, sx, hR⟩ | ⟨E, sT, -⟩
    rotate_left
    · exact absurd (hT.symm.trans sT) (fun z => nomatch z)
    cases hx9
    rw [FW_w] at hI
    refine lv_istore (lv' := [(6, .int (0)), (5, .int (nI (4 * t))), (4, .ref bd), (3, .ref bo), (2, .ref (ad 0)), (1, .ref (Z.A 0 0)), (0, .ref b)]) hx hb dL_law_924 hl (by decide) rfl (fun ls hl => ?_)
    refine lv_aload_n hx hb dL_law_926 rfl (lv_at hl 4 rfl) ?_
    refine lv_aload_n hx hb dL_law_927 rfl (lv_at hl 6 rfl) ?_
    refine lv_iload hx hb dL_law_928 (lv_at hl 1 rfl) ?_
    refine lv_iconst (v := 1) hx hb dL_law_930 (by decide) ?_
    refine lv_iadd hx hb dL_law_931 ?_
    refine va_sld hx hb hX hbl hbA hI.2.2.1 hin1 dL_law_932 ?_
    rw [← ea1]
    have hI2 := hI
    rw [← FW_m] at hI2
    refine jx_callV (rest := []) (as := [.int a1]) hx hb hml hts hown hK hE Dj_m hI2 (cM_go G ad M a1 h.2.1.1) kLM_146 ⟨(Nat.le_of_ble_eq_true rfl), (Nat.le_of_ble_eq_true rfl)⟩ (kk := 4) (ii := 0) rfl rfl rfl hl.1 (Nat.le_of_ble_eq_true rfl) dL_law_933 ⟨by show cells + 2 + 0 ≤ 601024; omega, by show slots + 12 + 0 ≤ 7293034; omega⟩ (fun v w' H locs hp hI => ?_)
    obtain ⟨rfl, rfl⟩ := hp
    rw [FW_m] at hI
    refine lv_istore (lv' := [(7, .int (M_go M a1).1), (6, .int (0)), (5, .int (nI (4 * t))), (4, .ref bd), (3, .ref bo), (2, .ref (ad 0)), (1, .ref (Z.A 0 0)), (0, .ref b)]) hx hb dL_law_936 hl (by decide) rfl (fun ls hl => ?_)
    refine lv_aload_n hx hb dL_law_938 rfl (lv_at hl 5 rfl) ?_
    have hI3 := hI
    rw [← FW_m] at hI3
    refine jx_callV (rest := []) (as := []) hx hb hml hts hown hK hE Dj_m hI3 (cM_thrown G ad (M_go M a1).2) kLM_107 ⟨(Nat.le_of_ble_eq_true rfl), (Nat.le_of_ble_eq_true rfl)⟩ (kk := 4) (ii := 0) rfl rfl rfl hl.1 (Nat.le_of_ble_eq_true rfl) dL_law_939 ⟨by show cells + 2 + 0 + 0 ≤ 601024; omega, by show slots + 12 + 0 + 0 ≤ 7293034; omega⟩ (fun v w' H locs hp hI => ?_)
    obtain ⟨rfl, rfl⟩ := hp
    rw [FW_m] at hI
    refine lv_iload (rest := [.int (M_thrown (M_go M a1).2)]) hx hb dL_law_942 (lv_at hl 1 rfl) ?_
    refine lv_icmp_eq (tgt := 949) hx hb dL_law_944 (by decide) (fun _ => ?_) (fun h0 => absurd s29 h0)
    refine lv_iload hx hb dL_law_949 (lv_at hl 1 rfl) ?_
    refine lv_if_ne (tgt := 973) hx hb dL_law_951 (by decide) (fun h0 => absurd rfl h0) (fun _ => ?_)
    refine lv_aload_n hx hb dL_law_954 rfl (lv_at hl 4 rfl) ?_
    refine lv_iconst (v := 0) hx hb dL_law_955 (by decide) ?_
    refine fx_lald (k := 10) (j := 0) (n := 1) hx hb hK hI FW_10 (i := 0) (by unfold vp_in; decide) dL_law_956 ?_
    refine lv_iload hx hb dL_law_957 (lv_at hl 0 rfl) ?_
    refine lv_if_eq (tgt := 966) hx hb dL_law_959 (by decide) (fun hy => ?_) (fun hy => ?_)
    · refine lv_lconst (v := 0) hx hb dL_law_966 (by decide) ?_
      refine W.lcmp hx hb dL_law_967 ?_
      refine lv_if_eq (tgt := 973) hx hb dL_law_968 (by decide) (fun _ => ?_) (fun h0 => absurd (cmpZ0 sx hy) h0)
      refine lv_goto (tgt := 1899) hx hb dL_law_973 (by decide) ?_
      refine W.widen (k := cells + 5) (n := slots + 802) (by show cells + 2 + 0 + 0 ≤ cells + 5; omega) (by show slots + 12 + 0 + 0 ≤ slots + 802; omega) ?_
      exact K _ _ _ _ _ _ _ _ hR rfl hI (lv_sub hl [2, 3, 4, 5, 6, 7] rfl)
    · refine lv_lconst (v := 1) hx hb dL_law_962 (by decide) ?_
      refine lv_goto (tgt := 967) hx hb dL_law_963 (by decide) ?_
      refine W.lcmp hx hb dL_law_967 ?_
      refine lv_if_eq (tgt := 973) hx hb dL_law_968 (by decide) (fun _ => ?_) (fun h0 => absurd (cmpZ1 sx hy) h0)
      refine lv_goto (tgt := 1899) hx hb dL_law_973 (by decide) ?_
      refine W.widen (k := cells + 5) (n := slots + 802) (by show cells + 2 + 0 + 0 ≤ cells + 5; omega) (by show slots + 12 + 0 + 0 ≤ slots + 802; omega) ?_
      exact K _ _ _ _ _ _ _ _ hR rfl hI (lv_sub hl [2, 3, 4, 5, 6, 7] rfl)
  · rcases hst with ⟨sT, -⟩ | ⟨E, sT, s29, hR⟩
    · exact absurd (hT.symm.trans sT) (fun z => nomatch z)
    have hEE : E = E9 := Option.some.inj (sT.symm.trans hT)
    subst hEE
    rw [FW_w] at hI
    refine lv_istore (lv' := [(6, .int (cdL EIOB EISE E)), (5, .int (nI (4 * t))), (4, .ref bd), (3, .ref bo), (2, .ref (ad 0)), (1, .ref (Z.A 0 0)), (0, .ref b)]) hx hb dL_law_924 hl (by decide) rfl (fun ls hl => ?_)
    refine lv_aload_n hx hb dL_law_926 rfl (lv_at hl 4 rfl) ?_
    refine lv_aload_n hx hb dL_law_927 rfl (lv_at hl 6 rfl) ?_
    refine lv_iload hx hb dL_law_928 (lv_at hl 1 rfl) ?_
    refine lv_iconst (v := 1) hx hb dL_law_930 (by decide) ?_
    refine lv_iadd hx hb dL_law_931 ?_
    refine va_sld hx hb hX hbl hbA hI.2.2.1 hin1 dL_law_932 ?_
    rw [← ea1]
    have hI2 := hI
    rw [← FW_m] at hI2
    refine jx_callV (rest := []) (as := [.int a1]) hx hb hml hts hown hK hE Dj_m hI2 (cM_go G ad M a1 h.2.1.1) kLM_146 ⟨(Nat.le_of_ble_eq_true rfl), (Nat.le_of_ble_eq_true rfl)⟩ (kk := 4) (ii := 0) rfl rfl rfl hl.1 (Nat.le_of_ble_eq_true rfl) dL_law_933 ⟨by show cells + 2 + 0 ≤ 601024; omega, by show slots + 12 + 0 ≤ 7293034; omega⟩ (fun v w' H locs hp hI => ?_)
    obtain ⟨rfl, rfl⟩ := hp
    rw [FW_m] at hI
    refine lv_istore (lv' := [(7, .int (M_go M a1).1), (6, .int (cdL EIOB EISE E)), (5, .int (nI (4 * t))), (4, .ref bd), (3, .ref bo), (2, .ref (ad 0)), (1, .ref (Z.A 0 0)), (0, .ref b)]) hx hb dL_law_936 hl (by decide) rfl (fun ls hl => ?_)
    refine lv_aload_n hx hb dL_law_938 rfl (lv_at hl 5 rfl) ?_
    have hI3 := hI
    rw [← FW_m] at hI3
    refine jx_callV (rest := []) (as := []) hx hb hml hts hown hK hE Dj_m hI3 (cM_thrown G ad (M_go M a1).2) kLM_107 ⟨(Nat.le_of_ble_eq_true rfl), (Nat.le_of_ble_eq_true rfl)⟩ (kk := 4) (ii := 0) rfl rfl rfl hl.1 (Nat.le_of_ble_eq_true rfl) dL_law_939 ⟨by show cells + 2 + 0 + 0 ≤ 601024; omega, by show slots + 12 + 0 + 0 ≤ 7293034; omega⟩ (fun v w' H locs hp hI => ?_)
    obtain ⟨rfl, rfl⟩ := hp
    rw [FW_m] at hI
    refine lv_iload (rest := [.int (M_thrown (M_go M a1).2)]) hx hb dL_law_942 (lv_at hl 1 rfl) ?_
    refine lv_icmp_eq (tgt := 949) hx hb dL_law_944 (by decide) (fun _ => ?_) (fun h0 => absurd s29 h0)
    refine lv_iload hx hb dL_law_949 (lv_at hl 1 rfl) ?_
    refine lv_if_ne (tgt := 973) hx hb dL_law_951 (by decide) (fun _ => ?_) (fun h0 => absurd h0 cdL_ne)
    refine lv_goto (tgt := 1899) hx hb dL_law_973 (by decide) ?_
    refine W.widen (k := cells + 5) (n := slots + 802) (by show cells + 2 + 0 + 0 ≤ cells + 5; omega) (by show slots + 12 + 0 + 0 ≤ slots + 802; omega) ?_
    exact K _ _ _ _ _ _ _ _ hR rfl hI (lv_sub hl [2, 3, 4, 5, 6, 7] rfl)
theorem kLM_149 : CkV "IcehighwayLaw" 149 yX4_turn cX4_turn 2 (some .boolean) 1 := ⟨q939, q936, q937, q938, q5, by decide +kernel⟩
set_option maxHeartbeats 4000000 in
set_option maxRecDepth 100000 in
theorem law_c12 {p : Program} {e : Env} {s : State} {m : MethodId} {below : List Frame} {meth : Method} {c : Code} {b L : Nat} {xs : Nat → Int32} {Q : State → Prop} {G : GX} {A : Nat → Prop} (C0 : LCtx p s m c b L xs G A) (hL : L ≤ 2048) {t : Nat} (hi : 4 * t + 4 ≤ L) {Z : XZ} {S : XS} {M : MS} {ad : Nat → Nat} {bo bd : Nat} {f : Nat → Int64} {g : Nat → UInt64} {H : Heap} {locs : List Loc} {ls : Array Slot} {cells slots : Nat} (h : RXA Z S M t) (hI : fI G.2.2.1 A s.heap (FW G.2.2.2 G.2.1 Z S ad M bo f bd g) H locs) (hl : lv_has ls 9 [(5, .int (nI (4 * t))), (4, .ref bd), (3, .ref bo), (2, .ref (ad 0)), (1, .ref (Z.A 0 0)), (0, .ref b)]) (hcs : cells + 5 ≤ 601024 ∧ slots + 802 ≤ 7293034) (K : LK p e s m below meth c b Q G A ad bo bd (Z.A 0 0) t cells slots) : W p G.1 e room_1 s m #[Value.ref b] below meth c H locs cells slots Q (F0 m 976 ls []) := by
  obtain ⟨hx, hb, hml, hts, hown, hK, hE, hX, hbl, hbA, hst0⟩ := C0
  have ht : t < 512 := by omega
  obtain ⟨a1, ea1⟩ : ∃ z, z = xs (nI (4 * t) + 1).toNatClampNeg := ⟨_, rfl⟩
  have hin1 : vp_in (nI (4 * t) + 1) L := sc_in (k := 1) rfl (by omega) hL
  have hst := st_turn h ht a1
  refine lv_aload_n hx hb dL_law_976 rfl (lv_at hl 4 rfl) ?_
  refine lv_aload_n hx hb dL_law_977 rfl (lv_at hl 5 rfl) ?_
  refine lv_iload hx hb dL_law_978 (lv_at hl 0 rfl) ?_
  refine lv_iconst (v := 1) hx hb dL_law_980 (by decide) ?_
  refine lv_iadd hx hb dL_law_981 ?_
  refine va_sld hx hb hX hbl hbA hI.2.2.1 hin1 dL_law_982 ?_
  rw [← ea1]
  refine lv_aload_n hx hb dL_law_983 rfl (lv_at hl 2 rfl) ?_
  have hI1 : fI G.2.2.1 A s.heap (jn (jn (xW G.2.2.2 G.2.1 Z S) (oW G.2.2.2 bo f)) (jn (mW G.2.2.2 ad M) (oD G.2.2.2 bd g))) H locs := by rw [FW_w]; exact hI
  refine jx_callH (rest := []) (as := [.ref (Z.A 0 0), .int a1, .ref bo]) hx hb hml hts hown hK hE Dj_w hI1 (cL_turnw G hst0 Z S bo f a1 h.1.1 h.1.2.1) kH_turn ⟨(Nat.le_of_ble_eq_true rfl), (Nat.le_of_ble_eq_true rfl)⟩ hl.1 (Nat.le_of_ble_eq_true rfl) dL_law_984 ⟨by show cells + 2 ≤ 601024; omega, by show slots + 12 ≤ 7293034; omega⟩ (fun v w' H locs hp hI => ?_)
  rcases hp with ⟨x9, w9, ⟨hT, hx9, rfl⟩, rfl, rfl⟩ | ⟨E9, ⟨hT, hw9⟩, rfl, rfl⟩
  · rcases hst with ⟨sT, s29, sx, hR⟩ | ⟨E, sT, -⟩
    rotate_left
    · exact absurd (hT.symm.trans sT) (fun z => nomatch z)
    cases hx9
    rw [FW_w] at hI
    refine lv_istore (lv' := [(6, .int (0)), (5, .int (nI (4 * t))), (4, .ref bd), (3, .ref bo), (2, .ref (ad 0)), (1, .ref (Z.A 0 0)), (0, .ref b)]) hx hb dL_law_987 hl (by decide) rfl (fun ls hl => ?_)
    refine lv_aload_n hx hb dL_law_989 rfl (lv_at hl 4 rfl) ?_
    refine lv_aload_n hx hb dL_law_990 rfl (lv_at hl 6 rfl) ?_
    refine lv_iload hx hb dL_law_991 (lv_at hl 1 rfl) ?_
    refine lv_iconst (v := 1) hx hb dL_law_993 (by decide) ?_
    refine lv_iadd hx hb dL_law_994 ?_
    refine va_sld hx hb hX hbl hbA hI.2.2.1 hin1 dL_law_995 ?_
    rw [← ea1]
    have hI2 := hI
    rw [← FW_m] at hI2
    refine jx_callV (rest := []) (as := [.int a1]) hx hb hml hts hown hK hE Dj_m hI2 (cM_turn G ad M a1 h.2.1.1 h.2.1.2.1) kLM_149 ⟨(Nat.le_of_ble_eq_true rfl), (Nat.le_of_ble_eq_true rfl)⟩ (kk := 4) (ii := 0) rfl rfl rfl hl.1 (Nat.le_of_ble_eq_true rfl) dL_law_996 ⟨by show cells + 2 + 0 ≤ 601024; omega, by show slots + 12 + 0 ≤ 7293034; omega⟩ (fun v w' H locs hp hI => ?_)
    obtain ⟨rfl, rfl⟩ := hp
    rw [FW_m] at hI
    refine lv_istore (lv' := [(7, .int (M_turn M a1).1), (6, .int (0)), (5, .int (nI (4 * t))), (4, .ref bd), (3, .ref bo), (2, .ref (ad 0)), (1, .ref (Z.A 0 0)), (0, .ref b)]) hx hb dL_law_999 hl (by decide) rfl (fun ls hl => ?_)
    refine lv_aload_n hx hb dL_law_1001 rfl (lv_at hl 5 rfl) ?_
    have hI3 := hI
    rw [← FW_m] at hI3
    refine jx_callV (rest := []) (as := []) hx hb hml hts hown hK hE Dj_m hI3 (cM_thrown G ad (M_turn M a1).2) kLM_107 ⟨(Nat.le_of_ble_eq_true rfl), (Nat.le_of_ble_eq_true rfl)⟩ (kk := 4) (ii := 0) rfl rfl rfl hl.1 (Nat.le_of_ble_eq_true rfl) dL_law_1002 ⟨by show cells + 2 + 0 + 0 ≤ 601024; omega, by show slots + 12 + 0 + 0 ≤ 7293034; omega⟩ (fun v w' H locs hp hI => ?_)
    obtain ⟨rfl, rfl⟩ := hp
    rw [FW_m] at hI
    refine lv_iload (rest := [.int (M_thrown (M_turn M a1).2)]) hx hb dL_law_1005 (lv_at hl 1 rfl) ?_
    refine lv_icmp_eq (tgt := 1012) hx hb dL_law_1007 (by decide) (fun _ => ?_) (fun h0 => absurd s29 h0)
    refine lv_iload hx hb dL_law_1012 (lv_at hl 1 rfl) ?_
    refine lv_if_ne (tgt := 1036) hx hb dL_law_1014 (by decide) (fun h0 => absurd rfl h0) (fun _ => ?_)
    refine lv_aload_n hx hb dL_law_1017 rfl (lv_at hl 4 rfl) ?_
    refine lv_iconst (v := 0) hx hb dL_law_1018 (by decide) ?_
    refine fx_lald (k := 10) (j := 0) (n := 1) hx hb hK hI FW_10 (i := 0) (by unfold vp_in; decide) dL_law_1019 ?_
    refine lv_iload hx hb dL_law_1020 (lv_at hl 0 rfl) ?_
    refine lv_if_eq (tgt := 1029) hx hb dL_law_1022 (by decide) (fun hy => ?_) (fun hy => ?_)
    · refine lv_lconst (v := 0) hx hb dL_law_1029 (by decide) ?_
      refine W.lcmp hx hb dL_law_1030 ?_
      refine lv_if_eq (tgt := 1036) hx hb dL_law_1031 (by decide) (fun _ => ?_) (fun h0 => absurd (cmpZ0 sx hy) h0)
      refine lv_goto (tgt := 1899) hx hb dL_law_1036 (by decide) ?_
      refine W.widen (k := cells + 5) (n := slots + 802) (by show cells + 2 + 0 + 0 ≤ cells + 5; omega) (by show slots + 12 + 0 + 0 ≤ slots + 802; omega) ?_
      exact K _ _ _ _ _ _ _ _ hR rfl hI (lv_sub hl [2, 3, 4, 5, 6, 7] rfl)
    · refine lv_lconst (v := 1) hx hb dL_law_1025 (by decide) ?_
      refine lv_goto (tgt := 1030) hx hb dL_law_1026 (by decide) ?_
      refine W.lcmp hx hb dL_law_1030 ?_
      refine lv_if_eq (tgt := 1036) hx hb dL_law_1031 (by decide) (fun _ => ?_) (fun h0 => absurd (cmpZ1 sx hy) h0)
      refine lv_goto (tgt := 1899) hx hb dL_law_1036 (by decide) ?_
      refine W.widen (k := cells + 5) (n := slots + 802) (by show cells + 2 + 0 + 0 ≤ cells + 5; omega) (by show slots + 12 + 0 + 0 ≤ slots + 802; omega) ?_
      exact K _ _ _ _ _ _ _ _ hR rfl hI (lv_sub hl [2, 3, 4, 5, 6, 7] rfl)
  · rcases hst with ⟨sT, -⟩ | ⟨E, sT, s29, hR⟩
    · exact absurd (hT.symm.trans sT) (fun z => nomatch z)
    have hEE : E = E9 := Option.some.inj (sT.symm.trans hT)
    subst hEE
    rw [FW_w] at hI
    refine lv_istore (lv' := [(6, .int (cdL EIOB EISE E)), (5, .int (nI (4 * t))), (4, .ref bd), (3, .ref bo), (2, .ref (ad 0)), (1, .ref (Z.A 0 0)), (0, .ref b)]) hx hb dL_law_987 hl (by decide) rfl (fun ls hl => ?_)
    refine lv_aload_n hx hb dL_law_989 rfl (lv_at hl 4 rfl) ?_
    refine lv_aload_n hx hb dL_law_990 rfl (lv_at hl 6 rfl) ?_
    refine lv_iload hx hb dL_law_991 (lv_at hl 1 rfl) ?_
    refine lv_iconst (v := 1) hx hb dL_law_993 (by decide) ?_
    refine lv_iadd hx hb dL_law_994 ?_
    refine va_sld hx hb hX hbl hbA hI.2.2.1 hin1 dL_law_995 ?_
    rw [← ea1]
    have hI2 := hI
    rw [← FW_m] at hI2
    refine jx_callV (rest := []) (as := [.int a1]) hx hb hml hts hown hK hE Dj_m hI2 (cM_turn G ad M a1 h.2.1.1 h.2.1.2.1) kLM_149 ⟨(Nat.le_of_ble_eq_true rfl), (Nat.le_of_ble_eq_true rfl)⟩ (kk := 4) (ii := 0) rfl rfl rfl hl.1 (Nat.le_of_ble_eq_true rfl) dL_law_996 ⟨by show cells + 2 + 0 ≤ 601024; omega, by show slots + 12 + 0 ≤ 7293034; omega⟩ (fun v w' H locs hp hI => ?_)
    obtain ⟨rfl, rfl⟩ := hp
    rw [FW_m] at hI
    refine lv_istore (lv' := [(7, .int (M_turn M a1).1), (6, .int (cdL EIOB EISE E)), (5, .int (nI (4 * t))), (4, .ref bd), (3, .ref bo), (2, .ref (ad 0)), (1, .ref (Z.A 0 0)), (0, .ref b)]) hx hb dL_law_999 hl (by decide) rfl (fun ls hl => ?_)
    refine lv_aload_n hx hb dL_law_1001 rfl (lv_at hl 5 rfl) ?_
    have hI3 := hI
    rw [← FW_m] at hI3
    refine jx_callV (rest := []) (as := []) hx hb hml hts hown hK hE Dj_m hI3 (cM_thrown G ad (M_turn M a1).2) kLM_107 ⟨(Nat.le_of_ble_eq_true rfl), (Nat.le_of_ble_eq_true rfl)⟩ (kk := 4) (ii := 0) rfl rfl rfl hl.1 (Nat.le_of_ble_eq_true rfl) dL_law_1002 ⟨by show cells + 2 + 0 + 0 ≤ 601024; omega, by show slots + 12 + 0 + 0 ≤ 7293034; omega⟩ (fun v w' H locs hp hI => ?_)
    obtain ⟨rfl, rfl⟩ := hp
    rw [FW_m] at hI
    refine lv_iload (rest := [.int (M_thrown (M_turn M a1).2)]) hx hb dL_law_1005 (lv_at hl 1 rfl) ?_
    refine lv_icmp_eq (tgt := 1012) hx hb dL_law_1007 (by decide) (fun _ => ?_) (fun h0 => absurd s29 h0)
    refine lv_iload hx hb dL_law_1012 (lv_at hl 1 rfl) ?_
    refine lv_if_ne (tgt := 1036) hx hb dL_law_1014 (by decide) (fun _ => ?_) (fun h0 => absurd h0 cdL_ne)
    refine lv_goto (tgt := 1899) hx hb dL_law_1036 (by decide) ?_
    refine W.widen (k := cells + 5) (n := slots + 802) (by show cells + 2 + 0 + 0 ≤ cells + 5; omega) (by show slots + 12 + 0 + 0 ≤ slots + 802; omega) ?_
    exact K _ _ _ _ _ _ _ _ hR rfl hI (lv_sub hl [2, 3, 4, 5, 6, 7] rfl)
theorem kLM_152 : CkV "IcehighwayLaw" 152 yX4_order cX4_order 4 (some .int) 2 := ⟨q955, q952, q953, q954, q5, by decide +kernel⟩
set_option maxHeartbeats 4000000 in
set_option maxRecDepth 100000 in
theorem law_c13 {p : Program} {e : Env} {s : State} {m : MethodId} {below : List Frame} {meth : Method} {c : Code} {b L : Nat} {xs : Nat → Int32} {Q : State → Prop} {G : GX} {A : Nat → Prop} (C0 : LCtx p s m c b L xs G A) (hL : L ≤ 2048) {t : Nat} (hi : 4 * t + 4 ≤ L) {Z : XZ} {S : XS} {M : MS} {ad : Nat → Nat} {bo bd : Nat} {f : Nat → Int64} {g : Nat → UInt64} {H : Heap} {locs : List Loc} {ls : Array Slot} {cells slots : Nat} (h : RXA Z S M t) (hI : fI G.2.2.1 A s.heap (FW G.2.2.2 G.2.1 Z S ad M bo f bd g) H locs) (hl : lv_has ls 9 [(5, .int (nI (4 * t))), (4, .ref bd), (3, .ref bo), (2, .ref (ad 0)), (1, .ref (Z.A 0 0)), (0, .ref b)]) (hcs : cells + 5 ≤ 601024 ∧ slots + 802 ≤ 7293034) (K : LK p e s m below meth c b Q G A ad bo bd (Z.A 0 0) t cells slots) : W p G.1 e room_1 s m #[Value.ref b] below meth c H locs cells slots Q (F0 m 1039 ls []) := by
  obtain ⟨hx, hb, hml, hts, hown, hK, hE, hX, hbl, hbA, hst0⟩ := C0
  have ht : t < 512 := by omega
  obtain ⟨a1, ea1⟩ : ∃ z, z = xs (nI (4 * t) + 1).toNatClampNeg := ⟨_, rfl⟩
  have hin1 : vp_in (nI (4 * t) + 1) L := sc_in (k := 1) rfl (by omega) hL
  obtain ⟨a2, ea2⟩ : ∃ z, z = xs (nI (4 * t) + 2).toNatClampNeg := ⟨_, rfl⟩
  have hin2 : vp_in (nI (4 * t) + 2) L := sc_in (k := 2) rfl (by omega) hL
  have hst := st_order h ht a1 a2
  refine lv_aload_n hx hb dL_law_1039 rfl (lv_at hl 4 rfl) ?_
  refine lv_aload_n hx hb dL_law_1040 rfl (lv_at hl 5 rfl) ?_
  refine lv_iload hx hb dL_law_1041 (lv_at hl 0 rfl) ?_
  refine lv_iconst (v := 1) hx hb dL_law_1043 (by decide) ?_
  refine lv_iadd hx hb dL_law_1044 ?_
  refine va_sld hx hb hX hbl hbA hI.2.2.1 hin1 dL_law_1045 ?_
  rw [← ea1]
  refine lv_aload_n hx hb dL_law_1046 rfl (lv_at hl 5 rfl) ?_
  refine lv_iload hx hb dL_law_1047 (lv_at hl 0 rfl) ?_
  refine lv_iconst (v := 2) hx hb dL_law_1049 (by decide) ?_
  refine lv_iadd hx hb dL_law_1050 ?_
  refine va_sld hx hb hX hbl hbA hI.2.2.1 hin2 dL_law_1051 ?_
  rw [← ea2]
  refine lv_aload_n hx hb dL_law_1052 rfl (lv_at hl 2 rfl) ?_
  have hI1 : fI G.2.2.1 A s.heap (jn (jn (xW G.2.2.2 G.2.1 Z S) (oW G.2.2.2 bo f)) (jn (mW G.2.2.2 ad M) (oD G.2.2.2 bd g))) H locs := by rw [FW_w]; exact hI
  refine jx_callH (rest := []) (as := [.ref (Z.A 0 0), .int a1, .int a2, .ref bo]) hx hb hml hts hown hK hE Dj_w hI1 (cL_orderw G hst0 Z S bo f a1 a2) kH_order ⟨(Nat.le_of_ble_eq_true rfl), (Nat.le_of_ble_eq_true rfl)⟩ hl.1 (Nat.le_of_ble_eq_true rfl) dL_law_1053 ⟨by show cells + 3 ≤ 601024; omega, by show slots + 18 ≤ 7293034; omega⟩ (fun v w' H locs hp hI => ?_)
  rcases hp with ⟨x9, w9, ⟨hT, hx9, rfl⟩, rfl, rfl⟩ | ⟨E9, ⟨hT, hw9⟩, rfl, rfl⟩
  · rcases hst with ⟨sT, s29, sx, hR⟩ | ⟨E, sT, -⟩
    rotate_left
    · exact absurd (hT.symm.trans sT) (fun z => nomatch z)
    cases hx9
    rw [FW_w] at hI
    refine lv_istore (lv' := [(6, .int (0)), (5, .int (nI (4 * t))), (4, .ref bd), (3, .ref bo), (2, .ref (ad 0)), (1, .ref (Z.A 0 0)), (0, .ref b)]) hx hb dL_law_1056 hl (by decide) rfl (fun ls hl => ?_)
    refine lv_aload_n hx hb dL_law_1058 rfl (lv_at hl 4 rfl) ?_
    refine lv_aload_n hx hb dL_law_1059 rfl (lv_at hl 6 rfl) ?_
    refine lv_iload hx hb dL_law_1060 (lv_at hl 1 rfl) ?_
    refine lv_iconst (v := 1) hx hb dL_law_1062 (by decide) ?_
    refine lv_iadd hx hb dL_law_1063 ?_
    refine va_sld hx hb hX hbl hbA hI.2.2.1 hin1 dL_law_1064 ?_
    rw [← ea1]
    refine lv_aload_n hx hb dL_law_1065 rfl (lv_at hl 6 rfl) ?_
    refine lv_iload hx hb dL_law_1066 (lv_at hl 1 rfl) ?_
    refine lv_iconst (v := 2) hx hb dL_law_1068 (by decide) ?_
    refine lv_iadd hx hb dL_law_1069 ?_
    refine va_sld hx hb hX hbl hbA hI.2.2.1 hin2 dL_law_1070 ?_
    rw [← ea2]
    have hI2 := hI
    rw [← FW_m] at hI2
    refine jx_callV (rest := []) (as := [.int a1, .int a2]) hx hb hml hts hown hK hE Dj_m hI2 (cM_order G ad M a1 a2 h.2.1.1) kLM_152 ⟨(Nat.le_of_ble_eq_true rfl), (Nat.le_of_ble_eq_true rfl)⟩ (kk := 4) (ii := 0) rfl rfl rfl hl.1 (Nat.le_of_ble_eq_true rfl) dL_law_1071 ⟨by show cells + 3 + 0 ≤ 601024; omega, by show slots + 18 + 0 ≤ 7293034; omega⟩ (fun v w' H locs hp hI => ?_)
    obtain ⟨rfl, rfl⟩ := hp
    rw [FW_m] at hI
    refine lv_istore (lv' := [(7, .int (M_order M a1 a2).1), (6, .int (0)), (5, .int (nI (4 * t))), (4, .ref bd), (3, .ref bo), (2, .ref (ad 0)), (1, .ref (Z.A 0 0)), (0, .ref b)]) hx hb dL_law_1074 hl (by decide) rfl (fun ls hl => ?_)
    refine lv_aload_n hx hb dL_law_1076 rfl (lv_at hl 5 rfl) ?_
    have hI3 := hI
    rw [← FW_m] at hI3
    refine jx_callV (rest := []) (as := []) hx hb hml hts hown hK hE Dj_m hI3 (cM_thrown G ad (M_order M a1 a2).2) kLM_107 ⟨(Nat.le_of_ble_eq_true rfl), (Nat.le_of_ble_eq_true rfl)⟩ (kk := 4) (ii := 0) rfl rfl rfl hl.1 (Nat.le_of_ble_eq_true rfl) dL_law_1077 ⟨by show cells + 3 + 0 + 0 ≤ 601024; omega, by show slots + 18 + 0 + 0 ≤ 7293034; omega⟩ (fun v w' H locs hp hI => ?_)
    obtain ⟨rfl, rfl⟩ := hp
    rw [FW_m] at hI
    refine lv_iload (rest := [.int (M_thrown (M_order M a1 a2).2)]) hx hb dL_law_1080 (lv_at hl 1 rfl) ?_
    refine lv_icmp_eq (tgt := 1087) hx hb dL_law_1082 (by decide) (fun _ => ?_) (fun h0 => absurd s29 h0)
    refine lv_iload hx hb dL_law_1087 (lv_at hl 1 rfl) ?_
    refine lv_if_ne (tgt := 1104) hx hb dL_law_1089 (by decide) (fun h0 => absurd rfl h0) (fun _ => ?_)
    refine lv_aload_n hx hb dL_law_1092 rfl (lv_at hl 4 rfl) ?_
    refine lv_iconst (v := 0) hx hb dL_law_1093 (by decide) ?_
    refine fx_lald (k := 10) (j := 0) (n := 1) hx hb hK hI FW_10 (i := 0) (by unfold vp_in; decide) dL_law_1094 ?_
    refine lv_iload hx hb dL_law_1095 (lv_at hl 0 rfl) ?_
    refine lv_i2l hx hb dL_law_1097 rfl ?_
    refine W.lcmp hx hb dL_law_1098 ?_
    refine lv_if_eq (tgt := 1104) hx hb dL_law_1099 (by decide) (fun _ => ?_) (fun h0 => absurd (cmpI sx) h0)
    refine lv_goto (tgt := 1899) hx hb dL_law_1104 (by decide) ?_
    refine W.widen (k := cells + 5) (n := slots + 802) (by show cells + 3 + 0 + 0 ≤ cells + 5; omega) (by show slots + 18 + 0 + 0 ≤ slots + 802; omega) ?_
    exact K _ _ _ _ _ _ _ _ hR rfl hI (lv_sub hl [2, 3, 4, 5, 6, 7] rfl)
  · rcases hst with ⟨sT, -⟩ | ⟨E, sT, s29, hR⟩
    · exact absurd (hT.symm.trans sT) (fun z => nomatch z)
    have hEE : E = E9 := Option.some.inj (sT.symm.trans hT)
    subst hEE
    rw [FW_w] at hI
    refine lv_istore (lv' := [(6, .int (cdL EIOB EIAE E)), (5, .int (nI (4 * t))), (4, .ref bd), (3, .ref bo), (2, .ref (ad 0)), (1, .ref (Z.A 0 0)), (0, .ref b)]) hx hb dL_law_1056 hl (by decide) rfl (fun ls hl => ?_)
    refine lv_aload_n hx hb dL_law_1058 rfl (lv_at hl 4 rfl) ?_
    refine lv_aload_n hx hb dL_law_1059 rfl (lv_at hl 6 rfl) ?_
    refine lv_iload hx hb dL_law_1060 (lv_at hl 1 rfl) ?_
    refine lv_iconst (v := 1) hx hb dL_law_1062 (by decide) ?_
    refine lv_iadd hx hb dL_law_1063 ?_
    refine va_sld hx hb hX hbl hbA hI.2.2.1 hin1 dL_law_1064 ?_
    rw [← ea1]
    refine lv_aload_n hx hb dL_law_1065 rfl (lv_at hl 6 rfl) ?_
    refine lv_iload hx hb dL_law_1066 (lv_at hl 1 rfl) ?_
    refine lv_iconst (v := 2) hx hb dL_law_1068 (by decide) ?_
    refine lv_iadd hx hb dL_law_1069 ?_
    refine va_sld hx hb hX hbl hbA hI.2.2.1 hin2 dL_law_1070 ?_
    rw [← ea2]
    have hI2 := hI
    rw [← FW_m] at hI2
    refine jx_callV (rest := []) (as := [.int a1, .int a2]) hx hb hml hts hown hK hE Dj_m hI2 (cM_order G ad M a1 a2 h.2.1.1) kLM_152 ⟨(Nat.le_of_ble_eq_true rfl), (Nat.le_of_ble_eq_true rfl)⟩ (kk := 4) (ii := 0) rfl rfl rfl hl.1 (Nat.le_of_ble_eq_true rfl) dL_law_1071 ⟨by show cells + 3 + 0 ≤ 601024; omega, by show slots + 18 + 0 ≤ 7293034; omega⟩ (fun v w' H locs hp hI => ?_)
    obtain ⟨rfl, rfl⟩ := hp
    rw [FW_m] at hI
    refine lv_istore (lv' := [(7, .int (M_order M a1 a2).1), (6, .int (cdL EIOB EIAE E)), (5, .int (nI (4 * t))), (4, .ref bd), (3, .ref bo), (2, .ref (ad 0)), (1, .ref (Z.A 0 0)), (0, .ref b)]) hx hb dL_law_1074 hl (by decide) rfl (fun ls hl => ?_)
    refine lv_aload_n hx hb dL_law_1076 rfl (lv_at hl 5 rfl) ?_
    have hI3 := hI
    rw [← FW_m] at hI3
    refine jx_callV (rest := []) (as := []) hx hb hml hts hown hK hE Dj_m hI3 (cM_thrown G ad (M_order M a1 a2).2) kLM_107 ⟨(Nat.le_of_ble_eq_true rfl), (Nat.le_of_ble_eq_true rfl)⟩ (kk := 4) (ii := 0) rfl rfl rfl hl.1 (Nat.le_of_ble_eq_true rfl) dL_law_1077 ⟨by show cells + 3 + 0 + 0 ≤ 601024; omega, by show slots + 18 + 0 + 0 ≤ 7293034; omega⟩ (fun v w' H locs hp hI => ?_)
    obtain ⟨rfl, rfl⟩ := hp
    rw [FW_m] at hI
    refine lv_iload (rest := [.int (M_thrown (M_order M a1 a2).2)]) hx hb dL_law_1080 (lv_at hl 1 rfl) ?_
    refine lv_icmp_eq (tgt := 1087) hx hb dL_law_1082 (by decide) (fun _ => ?_) (fun h0 => absurd s29 h0)
    refine lv_iload hx hb dL_law_1087 (lv_at hl 1 rfl) ?_
    refine lv_if_ne (tgt := 1104) hx hb dL_law_1089 (by decide) (fun _ => ?_) (fun h0 => absurd h0 cdL_ne)
    refine lv_goto (tgt := 1899) hx hb dL_law_1104 (by decide) ?_
    refine W.widen (k := cells + 5) (n := slots + 802) (by show cells + 3 + 0 + 0 ≤ cells + 5; omega) (by show slots + 18 + 0 + 0 ≤ slots + 802; omega) ?_
    exact K _ _ _ _ _ _ _ _ hR rfl hI (lv_sub hl [2, 3, 4, 5, 6, 7] rfl)
theorem kLM_155 : CkV "IcehighwayLaw" 155 yX4_pass cX4_pass 3 (some .int) 1 := ⟨q961, q958, q959, q960, q5, by decide +kernel⟩
set_option maxHeartbeats 4000000 in
set_option maxRecDepth 100000 in
theorem law_c14 {p : Program} {e : Env} {s : State} {m : MethodId} {below : List Frame} {meth : Method} {c : Code} {b L : Nat} {xs : Nat → Int32} {Q : State → Prop} {G : GX} {A : Nat → Prop} (C0 : LCtx p s m c b L xs G A) (hL : L ≤ 2048) {t : Nat} (hi : 4 * t + 4 ≤ L) {Z : XZ} {S : XS} {M : MS} {ad : Nat → Nat} {bo bd : Nat} {f : Nat → Int64} {g : Nat → UInt64} {H : Heap} {locs : List Loc} {ls : Array Slot} {cells slots : Nat} (h : RXA Z S M t) (hI : fI G.2.2.1 A s.heap (FW G.2.2.2 G.2.1 Z S ad M bo f bd g) H locs) (hl : lv_has ls 9 [(5, .int (nI (4 * t))), (4, .ref bd), (3, .ref bo), (2, .ref (ad 0)), (1, .ref (Z.A 0 0)), (0, .ref b)]) (hcs : cells + 5 ≤ 601024 ∧ slots + 802 ≤ 7293034) (K : LK p e s m below meth c b Q G A ad bo bd (Z.A 0 0) t cells slots) : W p G.1 e room_1 s m #[Value.ref b] below meth c H locs cells slots Q (F0 m 1107 ls []) := by
  obtain ⟨hx, hb, hml, hts, hown, hK, hE, hX, hbl, hbA, hst0⟩ := C0
  have ht : t < 512 := by omega
  obtain ⟨a1, ea1⟩ : ∃ z, z = xs (nI (4 * t) + 1).toNatClampNeg := ⟨_, rfl⟩
  have hin1 : vp_in (nI (4 * t) + 1) L := sc_in (k := 1) rfl (by omega) hL
  have hst := st_pass h ht a1
  refine lv_aload_n hx hb dL_law_1107 rfl (lv_at hl 4 rfl) ?_
  refine lv_aload_n hx hb dL_law_1108 rfl (lv_at hl 5 rfl) ?_
  refine lv_iload hx hb dL_law_1109 (lv_at hl 0 rfl) ?_
  refine lv_iconst (v := 1) hx hb dL_law_1111 (by decide) ?_
  refine lv_iadd hx hb dL_law_1112 ?_
  refine va_sld hx hb hX hbl hbA hI.2.2.1 hin1 dL_law_1113 ?_
  rw [← ea1]
  refine lv_aload_n hx hb dL_law_1114 rfl (lv_at hl 2 rfl) ?_
  have hI1 : fI G.2.2.1 A s.heap (jn (jn (xW G.2.2.2 G.2.1 Z S) (oW G.2.2.2 bo f)) (jn (mW G.2.2.2 ad M) (oD G.2.2.2 bd g))) H locs := by rw [FW_w]; exact hI
  refine jx_callH (rest := []) (as := [.ref (Z.A 0 0), .int a1, .ref bo]) hx hb hml hts hown hK hE Dj_w hI1 (cL_passw G hst0 Z S bo f a1 h.1.1 h.1.2.1) kH_pass ⟨(Nat.le_of_ble_eq_true rfl), (Nat.le_of_ble_eq_true rfl)⟩ hl.1 (Nat.le_of_ble_eq_true rfl) dL_law_1115 ⟨by show cells + 2 ≤ 601024; omega, by show slots + 12 ≤ 7293034; omega⟩ (fun v w' H locs hp hI => ?_)
  rcases hp with ⟨x9, w9, ⟨hT, hx9, rfl⟩, rfl, rfl⟩ | ⟨E9, ⟨hT, hw9⟩, rfl, rfl⟩
  · rcases hst with ⟨sT, s29, sx, hR⟩ | ⟨E, sT, -⟩
    rotate_left
    · exact absurd (hT.symm.trans sT) (fun z => nomatch z)
    cases hx9
    rw [FW_w] at hI
    refine lv_istore (lv' := [(6, .int (0)), (5, .int (nI (4 * t))), (4, .ref bd), (3, .ref bo), (2, .ref (ad 0)), (1, .ref (Z.A 0 0)), (0, .ref b)]) hx hb dL_law_1118 hl (by decide) rfl (fun ls hl => ?_)
    refine lv_aload_n hx hb dL_law_1120 rfl (lv_at hl 4 rfl) ?_
    refine lv_aload_n hx hb dL_law_1121 rfl (lv_at hl 6 rfl) ?_
    refine lv_iload hx hb dL_law_1122 (lv_at hl 1 rfl) ?_
    refine lv_iconst (v := 1) hx hb dL_law_1124 (by decide) ?_
    refine lv_iadd hx hb dL_law_1125 ?_
    refine va_sld hx hb hX hbl hbA hI.2.2.1 hin1 dL_law_1126 ?_
    rw [← ea1]
    have hI2 := hI
    rw [← FW_m] at hI2
    refine jx_callV (rest := []) (as := [.int a1]) hx hb hml hts hown hK hE Dj_m hI2 (cM_pass G ad M a1 h.2.1) kLM_155 ⟨(Nat.le_of_ble_eq_true rfl), (Nat.le_of_ble_eq_true rfl)⟩ (kk := 4) (ii := 0) rfl rfl rfl hl.1 (Nat.le_of_ble_eq_true rfl) dL_law_1127 ⟨by show cells + 2 + 0 ≤ 601024; omega, by show slots + 12 + 0 ≤ 7293034; omega⟩ (fun v w' H locs hp hI => ?_)
    obtain ⟨rfl, rfl⟩ := hp
    rw [FW_m] at hI
    refine lv_istore (lv' := [(7, .int (M_pass M a1).1), (6, .int (0)), (5, .int (nI (4 * t))), (4, .ref bd), (3, .ref bo), (2, .ref (ad 0)), (1, .ref (Z.A 0 0)), (0, .ref b)]) hx hb dL_law_1130 hl (by decide) rfl (fun ls hl => ?_)
    refine lv_aload_n hx hb dL_law_1132 rfl (lv_at hl 5 rfl) ?_
    have hI3 := hI
    rw [← FW_m] at hI3
    refine jx_callV (rest := []) (as := []) hx hb hml hts hown hK hE Dj_m hI3 (cM_thrown G ad (M_pass M a1).2) kLM_107 ⟨(Nat.le_of_ble_eq_true rfl), (Nat.le_of_ble_eq_true rfl)⟩ (kk := 4) (ii := 0) rfl rfl rfl hl.1 (Nat.le_of_ble_eq_true rfl) dL_law_1133 ⟨by show cells + 2 + 0 + 0 ≤ 601024; omega, by show slots + 12 + 0 + 0 ≤ 7293034; omega⟩ (fun v w' H locs hp hI => ?_)
    obtain ⟨rfl, rfl⟩ := hp
    rw [FW_m] at hI
    refine lv_iload (rest := [.int (M_thrown (M_pass M a1).2)]) hx hb dL_law_1136 (lv_at hl 1 rfl) ?_
    refine lv_icmp_eq (tgt := 1143) hx hb dL_law_1138 (by decide) (fun _ => ?_) (fun h0 => absurd s29 h0)
    refine lv_iload hx hb dL_law_1143 (lv_at hl 1 rfl) ?_
    refine lv_if_ne (tgt := 1160) hx hb dL_law_1145 (by decide) (fun h0 => absurd rfl h0) (fun _ => ?_)
    refine lv_aload_n hx hb dL_law_1148 rfl (lv_at hl 4 rfl) ?_
    refine lv_iconst (v := 0) hx hb dL_law_1149 (by decide) ?_
    refine fx_lald (k := 10) (j := 0) (n := 1) hx hb hK hI FW_10 (i := 0) (by unfold vp_in; decide) dL_law_1150 ?_
    refine lv_iload hx hb dL_law_1151 (lv_at hl 0 rfl) ?_
    refine lv_i2l hx hb dL_law_1153 rfl ?_
    refine W.lcmp hx hb dL_law_1154 ?_
    refine lv_if_eq (tgt := 1160) hx hb dL_law_1155 (by decide) (fun _ => ?_) (fun h0 => absurd (cmpI sx) h0)
    refine lv_goto (tgt := 1899) hx hb dL_law_1160 (by decide) ?_
    refine W.widen (k := cells + 5) (n := slots + 802) (by show cells + 2 + 0 + 0 ≤ cells + 5; omega) (by show slots + 12 + 0 + 0 ≤ slots + 802; omega) ?_
    exact K _ _ _ _ _ _ _ _ hR rfl hI (lv_sub hl [2, 3, 4, 5, 6, 7] rfl)
  · rcases hst with ⟨sT, -⟩ | ⟨E, sT, s29, hR⟩
    · exact absurd (hT.symm.trans sT) (fun z => nomatch z)
    have hEE : E = E9 := Option.some.inj (sT.symm.trans hT)
    subst hEE
    rw [FW_w] at hI
    refine lv_istore (lv' := [(6, .int (cdL EIAE EISE E)), (5, .int (nI (4 * t))), (4, .ref bd), (3, .ref bo), (2, .ref (ad 0)), (1, .ref (Z.A 0 0)), (0, .ref b)]) hx hb dL_law_1118 hl (by decide) rfl (fun ls hl => ?_)
    refine lv_aload_n hx hb dL_law_1120 rfl (lv_at hl 4 rfl) ?_
    refine lv_aload_n hx hb dL_law_1121 rfl (lv_at hl 6 rfl) ?_
    refine lv_iload hx hb dL_law_1122 (lv_at hl 1 rfl) ?_
    refine lv_iconst (v := 1) hx hb dL_law_1124 (by decide) ?_
    refine lv_iadd hx hb dL_law_1125 ?_
    refine va_sld hx hb hX hbl hbA hI.2.2.1 hin1 dL_law_1126 ?_
    rw [← ea1]
    have hI2 := hI
    rw [← FW_m] at hI2
    refine jx_callV (rest := []) (as := [.int a1]) hx hb hml hts hown hK hE Dj_m hI2 (cM_pass G ad M a1 h.2.1) kLM_155 ⟨(Nat.le_of_ble_eq_true rfl), (Nat.le_of_ble_eq_true rfl)⟩ (kk := 4) (ii := 0) rfl rfl rfl hl.1 (Nat.le_of_ble_eq_true rfl) dL_law_1127 ⟨by show cells + 2 + 0 ≤ 601024; omega, by show slots + 12 + 0 ≤ 7293034; omega⟩ (fun v w' H locs hp hI => ?_)
    obtain ⟨rfl, rfl⟩ := hp
    rw [FW_m] at hI
    refine lv_istore (lv' := [(7, .int (M_pass M a1).1), (6, .int (cdL EIAE EISE E)), (5, .int (nI (4 * t))), (4, .ref bd), (3, .ref bo), (2, .ref (ad 0)), (1, .ref (Z.A 0 0)), (0, .ref b)]) hx hb dL_law_1130 hl (by decide) rfl (fun ls hl => ?_)
    refine lv_aload_n hx hb dL_law_1132 rfl (lv_at hl 5 rfl) ?_
    have hI3 := hI
    rw [← FW_m] at hI3
    refine jx_callV (rest := []) (as := []) hx hb hml hts hown hK hE Dj_m hI3 (cM_thrown G ad (M_pass M a1).2) kLM_107 ⟨(Nat.le_of_ble_eq_true rfl), (Nat.le_of_ble_eq_true rfl)⟩ (kk := 4) (ii := 0) rfl rfl rfl hl.1 (Nat.le_of_ble_eq_true rfl) dL_law_1133 ⟨by show cells + 2 + 0 + 0 ≤ 601024; omega, by show slots + 12 + 0 + 0 ≤ 7293034; omega⟩ (fun v w' H locs hp hI => ?_)
    obtain ⟨rfl, rfl⟩ := hp
    rw [FW_m] at hI
    refine lv_iload (rest := [.int (M_thrown (M_pass M a1).2)]) hx hb dL_law_1136 (lv_at hl 1 rfl) ?_
    refine lv_icmp_eq (tgt := 1143) hx hb dL_law_1138 (by decide) (fun _ => ?_) (fun h0 => absurd s29 h0)
    refine lv_iload hx hb dL_law_1143 (lv_at hl 1 rfl) ?_
    refine lv_if_ne (tgt := 1160) hx hb dL_law_1145 (by decide) (fun _ => ?_) (fun h0 => absurd h0 cdL_ne)
    refine lv_goto (tgt := 1899) hx hb dL_law_1160 (by decide) ?_
    refine W.widen (k := cells + 5) (n := slots + 802) (by show cells + 2 + 0 + 0 ≤ cells + 5; omega) (by show slots + 12 + 0 + 0 ≤ slots + 802; omega) ?_
    exact K _ _ _ _ _ _ _ _ hR rfl hI (lv_sub hl [2, 3, 4, 5, 6, 7] rfl)
theorem kLM_156 : CkV "IcehighwayLaw" 156 yX3_minute cX3_minute 1 (some .int) 0 := ⟨q87, q84, q85, q86, q1, by decide +kernel⟩
theorem kLM_159 : CkV "IcehighwayLaw" 159 yX4_minute cX4_minute 1 (some .int) 0 := ⟨q1022, q1019, q1020, q1021, q5, by decide +kernel⟩
set_option maxHeartbeats 4000000 in
set_option maxRecDepth 100000 in
theorem law_c15 {p : Program} {e : Env} {s : State} {m : MethodId} {below : List Frame} {meth : Method} {c : Code} {b L : Nat} {xs : Nat → Int32} {Q : State → Prop} {G : GX} {A : Nat → Prop} (C0 : LCtx p s m c b L xs G A) (hL : L ≤ 2048) {t : Nat} (hi : 4 * t + 4 ≤ L) {Z : XZ} {S : XS} {M : MS} {ad : Nat → Nat} {bo bd : Nat} {f : Nat → Int64} {g : Nat → UInt64} {H : Heap} {locs : List Loc} {ls : Array Slot} {cells slots : Nat} (h : RXA Z S M t) (hI : fI G.2.2.1 A s.heap (FW G.2.2.2 G.2.1 Z S ad M bo f bd g) H locs) (hl : lv_has ls 9 [(5, .int (nI (4 * t))), (4, .ref bd), (3, .ref bo), (2, .ref (ad 0)), (1, .ref (Z.A 0 0)), (0, .ref b)]) (hcs : cells + 5 ≤ 601024 ∧ slots + 802 ≤ 7293034) (K : LK p e s m below meth c b Q G A ad bo bd (Z.A 0 0) t cells slots) : W p G.1 e room_1 s m #[Value.ref b] below meth c H locs cells slots Q (F0 m 1163 ls []) := by
  obtain ⟨hx, hb, hml, hts, hown, hK, hE, hX, hbl, hbA, hst0⟩ := C0
  have ht : t < 512 := by omega
  obtain ⟨sx, hR⟩ := st_minute h ht
  refine lv_aload_n hx hb dL_law_1163 rfl (lv_at hl 4 rfl) ?_
  have hI1 : fI G.2.2.1 A s.heap (jn (xW G.2.2.2 G.2.1 Z S) (jn (jn (mW G.2.2.2 ad M) (oW G.2.2.2 bo f)) (oD G.2.2.2 bd g))) H locs := by rw [FW_x]; exact hI
  refine jx_callV (rest := []) (as := []) hx hb hml hts hown hK hE Dj_x hI1 (cX_minute G Z S) kLM_156 ⟨(Nat.le_of_ble_eq_true rfl), (Nat.le_of_ble_eq_true rfl)⟩ (kk := 0) (ii := 0) (xW0 (by decide)) rfl rfl hl.1 (Nat.le_of_ble_eq_true rfl) dL_law_1164 ⟨by show cells + 0 ≤ 601024; omega, by show slots + 0 ≤ 7293034; omega⟩ (fun v w' H locs hp hI => ?_)
  obtain ⟨rfl, rfl⟩ := hp
  rw [FW_x] at hI
  refine lv_aload_n (rest := [.int (X_minute Z S)]) hx hb dL_law_1167 rfl (lv_at hl 3 rfl) ?_
  have hI2 : fI G.2.2.1 A s.heap (jn (mW G.2.2.2 ad M) (jn (jn (xW G.2.2.2 G.2.1 Z S) (oW G.2.2.2 bo f)) (oD G.2.2.2 bd g))) H locs := by rw [FW_m]; exact hI
  refine jx_callV (rest := [.int (X_minute Z S)]) (as := []) hx hb hml hts hown hK hE Dj_m hI2 (cM_minute G ad M) kLM_159 ⟨(Nat.le_of_ble_eq_true rfl), (Nat.le_of_ble_eq_true rfl)⟩ (kk := 4) (ii := 0) rfl rfl rfl hl.1 (Nat.le_of_ble_eq_true rfl) dL_law_1168 ⟨by show cells + 0 + 0 ≤ 601024; omega, by show slots + 0 + 0 ≤ 7293034; omega⟩ (fun v w' H locs hp hI => ?_)
  obtain ⟨rfl, rfl⟩ := hp
  rw [FW_m] at hI
  refine lv_icmp_eq (tgt := 1899) hx hb dL_law_1171 (by decide) (fun _ => ?_) (fun h0 => absurd sx h0)
  refine W.widen (k := cells + 5) (n := slots + 802) (by show cells + 0 + 0 ≤ cells + 5; omega) (by show slots + 0 + 0 ≤ slots + 802; omega) ?_
  exact K _ _ _ _ _ _ _ _ hR rfl hI hl
