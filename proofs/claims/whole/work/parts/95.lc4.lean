/-! ===== the law, call by call ===== -/
theorem kLM_162 : CkV "IcehighwayLaw" 162 yX4_told cX4_told 3 (some .int) 2 := ⟨q1026, q1023, q1024, q1025, q5, by decide +kernel⟩
set_option maxHeartbeats 4000000 in
set_option maxRecDepth 100000 in
theorem law_c16 {p : Program} {e : Env} {s : State} {m : MethodId} {below : List Frame} {meth : Method} {c : Code} {b L : Nat} {xs : Nat → Int32} {Q : State → Prop} {G : GX} {A : Nat → Prop} (C0 : LCtx p s m c b L xs G A) (hL : L ≤ 2048) {t : Nat} (hi : 4 * t + 4 ≤ L) {Z : XZ} {S : XS} {M : MS} {ad : Nat → Nat} {bo bd : Nat} {f : Nat → Int64} {g : Nat → UInt64} {H : Heap} {locs : List Loc} {ls : Array Slot} {cells slots : Nat} (h : RXA Z S M t) (hI : fI G.2.2.1 A s.heap (FW G.2.2.2 G.2.1 Z S ad M bo f bd g) H locs) (hl : lv_has ls 9 [(5, .int (nI (4 * t))), (4, .ref bd), (3, .ref bo), (2, .ref (ad 0)), (1, .ref (Z.A 0 0)), (0, .ref b)]) (hcs : cells + 5 ≤ 601024 ∧ slots + 802 ≤ 7293034) (K : LK p e s m below meth c b Q G A ad bo bd (Z.A 0 0) t cells slots) : W p G.1 e room_1 s m #[Value.ref b] below meth c H locs cells slots Q (F0 m 1176 ls []) := by
  obtain ⟨hx, hb, hml, hts, hown, hK, hE, hX, hbl, hbA, hst0⟩ := C0
  have ht : t < 512 := by omega
  obtain ⟨a1, ea1⟩ : ∃ z, z = xs (nI (4 * t) + 1).toNatClampNeg := ⟨_, rfl⟩
  have hin1 : vp_in (nI (4 * t) + 1) L := sc_in (k := 1) rfl (by omega) hL
  obtain ⟨a2, ea2⟩ : ∃ z, z = xs (nI (4 * t) + 2).toNatClampNeg := ⟨_, rfl⟩
  have hin2 : vp_in (nI (4 * t) + 2) L := sc_in (k := 2) rfl (by omega) hL
  have hst := st_told h ht a1 a2
  refine lv_aload_n hx hb dL_law_1176 rfl (lv_at hl 4 rfl) ?_
  refine lv_aload_n hx hb dL_law_1177 rfl (lv_at hl 5 rfl) ?_
  refine lv_iload hx hb dL_law_1178 (lv_at hl 0 rfl) ?_
  refine lv_iconst (v := 1) hx hb dL_law_1180 (by decide) ?_
  refine lv_iadd hx hb dL_law_1181 ?_
  refine va_sld hx hb hX hbl hbA hI.2.2.1 hin1 dL_law_1182 ?_
  rw [← ea1]
  refine lv_aload_n hx hb dL_law_1183 rfl (lv_at hl 5 rfl) ?_
  refine lv_iload hx hb dL_law_1184 (lv_at hl 0 rfl) ?_
  refine lv_iconst (v := 2) hx hb dL_law_1186 (by decide) ?_
  refine lv_iadd hx hb dL_law_1187 ?_
  refine va_sld hx hb hX hbl hbA hI.2.2.1 hin2 dL_law_1188 ?_
  rw [← ea2]
  refine lv_aload_n hx hb dL_law_1189 rfl (lv_at hl 2 rfl) ?_
  have hI1 : fI G.2.2.1 A s.heap (jn (jn (xW G.2.2.2 G.2.1 Z S) (oW G.2.2.2 bo f)) (jn (mW G.2.2.2 ad M) (oD G.2.2.2 bd g))) H locs := by rw [FW_w]; exact hI
  refine jx_callH (rest := []) (as := [.ref (Z.A 0 0), .int a1, .int a2, .ref bo]) hx hb hml hts hown hK hE Dj_w hI1 (cL_toldw G hst0 Z S bo f a1 a2 h.1.1) kH_told ⟨(Nat.le_of_ble_eq_true rfl), (Nat.le_of_ble_eq_true rfl)⟩ hl.1 (Nat.le_of_ble_eq_true rfl) dL_law_1190 ⟨by show cells + 2 ≤ 601024; omega, by show slots + 12 ≤ 7293034; omega⟩ (fun v w' H locs hp hI => ?_)
  rcases hp with ⟨x9, w9, ⟨hT, hx9, rfl⟩, rfl, rfl⟩ | ⟨E9, ⟨hT, hw9⟩, rfl, rfl⟩
  · rcases hst with ⟨sT, s29, sx, hR⟩ | ⟨E, sT, -⟩
    rotate_left
    · exact absurd (hT.symm.trans sT) (fun z => nomatch z)
    cases hx9
    rw [FW_w] at hI
    refine lv_istore (lv' := [(6, .int (0)), (5, .int (nI (4 * t))), (4, .ref bd), (3, .ref bo), (2, .ref (ad 0)), (1, .ref (Z.A 0 0)), (0, .ref b)]) hx hb dL_law_1193 hl (by decide) rfl (fun ls hl => ?_)
    refine lv_aload_n hx hb dL_law_1195 rfl (lv_at hl 4 rfl) ?_
    refine lv_aload_n hx hb dL_law_1196 rfl (lv_at hl 6 rfl) ?_
    refine lv_iload hx hb dL_law_1197 (lv_at hl 1 rfl) ?_
    refine lv_iconst (v := 1) hx hb dL_law_1199 (by decide) ?_
    refine lv_iadd hx hb dL_law_1200 ?_
    refine va_sld hx hb hX hbl hbA hI.2.2.1 hin1 dL_law_1201 ?_
    rw [← ea1]
    refine lv_aload_n hx hb dL_law_1202 rfl (lv_at hl 6 rfl) ?_
    refine lv_iload hx hb dL_law_1203 (lv_at hl 1 rfl) ?_
    refine lv_iconst (v := 2) hx hb dL_law_1205 (by decide) ?_
    refine lv_iadd hx hb dL_law_1206 ?_
    refine va_sld hx hb hX hbl hbA hI.2.2.1 hin2 dL_law_1207 ?_
    rw [← ea2]
    have hI2 := hI
    rw [← FW_m] at hI2
    refine jx_callV (rest := []) (as := [.int a1, .int a2]) hx hb hml hts hown hK hE Dj_m hI2 (cM_told G ad M a1 a2 h.2.1.1) kLM_162 ⟨(Nat.le_of_ble_eq_true rfl), (Nat.le_of_ble_eq_true rfl)⟩ (kk := 4) (ii := 0) rfl rfl rfl hl.1 (Nat.le_of_ble_eq_true rfl) dL_law_1208 ⟨by show cells + 2 + 0 ≤ 601024; omega, by show slots + 12 + 0 ≤ 7293034; omega⟩ (fun v w' H locs hp hI => ?_)
    obtain ⟨rfl, rfl⟩ := hp
    rw [FW_m] at hI
    refine lv_istore (lv' := [(7, .int (M_told M a1 a2).1), (6, .int (0)), (5, .int (nI (4 * t))), (4, .ref bd), (3, .ref bo), (2, .ref (ad 0)), (1, .ref (Z.A 0 0)), (0, .ref b)]) hx hb dL_law_1211 hl (by decide) rfl (fun ls hl => ?_)
    refine lv_aload_n hx hb dL_law_1213 rfl (lv_at hl 5 rfl) ?_
    have hI3 := hI
    rw [← FW_m] at hI3
    refine jx_callV (rest := []) (as := []) hx hb hml hts hown hK hE Dj_m hI3 (cM_thrown G ad (M_told M a1 a2).2) kLM_107 ⟨(Nat.le_of_ble_eq_true rfl), (Nat.le_of_ble_eq_true rfl)⟩ (kk := 4) (ii := 0) rfl rfl rfl hl.1 (Nat.le_of_ble_eq_true rfl) dL_law_1214 ⟨by show cells + 2 + 0 + 0 ≤ 601024; omega, by show slots + 12 + 0 + 0 ≤ 7293034; omega⟩ (fun v w' H locs hp hI => ?_)
    obtain ⟨rfl, rfl⟩ := hp
    rw [FW_m] at hI
    refine lv_iload (rest := [.int (M_thrown (M_told M a1 a2).2)]) hx hb dL_law_1217 (lv_at hl 1 rfl) ?_
    refine lv_icmp_eq (tgt := 1224) hx hb dL_law_1219 (by decide) (fun _ => ?_) (fun h0 => absurd s29 h0)
    refine lv_iload hx hb dL_law_1224 (lv_at hl 1 rfl) ?_
    refine lv_if_ne (tgt := 1241) hx hb dL_law_1226 (by decide) (fun h0 => absurd rfl h0) (fun _ => ?_)
    refine lv_aload_n hx hb dL_law_1229 rfl (lv_at hl 4 rfl) ?_
    refine lv_iconst (v := 0) hx hb dL_law_1230 (by decide) ?_
    refine fx_lald (k := 10) (j := 0) (n := 1) hx hb hK hI FW_10 (i := 0) (by unfold vp_in; decide) dL_law_1231 ?_
    refine lv_iload hx hb dL_law_1232 (lv_at hl 0 rfl) ?_
    refine lv_i2l hx hb dL_law_1234 rfl ?_
    refine W.lcmp hx hb dL_law_1235 ?_
    refine lv_if_eq (tgt := 1241) hx hb dL_law_1236 (by decide) (fun _ => ?_) (fun h0 => absurd (cmpI sx) h0)
    refine lv_goto (tgt := 1899) hx hb dL_law_1241 (by decide) ?_
    refine W.widen (k := cells + 5) (n := slots + 802) (by show cells + 2 + 0 + 0 ≤ cells + 5; omega) (by show slots + 12 + 0 + 0 ≤ slots + 802; omega) ?_
    exact K _ _ _ _ _ _ _ _ hR rfl hI (lv_sub hl [2, 3, 4, 5, 6, 7] rfl)
  · rcases hst with ⟨sT, -⟩ | ⟨E, sT, s29, hR⟩
    · exact absurd (hT.symm.trans sT) (fun z => nomatch z)
    have hEE : E = E9 := Option.some.inj (sT.symm.trans hT)
    subst hEE
    rw [FW_w] at hI
    refine lv_istore (lv' := [(6, .int (cdL EIOB EIAE E)), (5, .int (nI (4 * t))), (4, .ref bd), (3, .ref bo), (2, .ref (ad 0)), (1, .ref (Z.A 0 0)), (0, .ref b)]) hx hb dL_law_1193 hl (by decide) rfl (fun ls hl => ?_)
    refine lv_aload_n hx hb dL_law_1195 rfl (lv_at hl 4 rfl) ?_
    refine lv_aload_n hx hb dL_law_1196 rfl (lv_at hl 6 rfl) ?_
    refine lv_iload hx hb dL_law_1197 (lv_at hl 1 rfl) ?_
    refine lv_iconst (v := 1) hx hb dL_law_1199 (by decide) ?_
    refine lv_iadd hx hb dL_law_1200 ?_
    refine va_sld hx hb hX hbl hbA hI.2.2.1 hin1 dL_law_1201 ?_
    rw [← ea1]
    refine lv_aload_n hx hb dL_law_1202 rfl (lv_at hl 6 rfl) ?_
    refine lv_iload hx hb dL_law_1203 (lv_at hl 1 rfl) ?_
    refine lv_iconst (v := 2) hx hb dL_law_1205 (by decide) ?_
    refine lv_iadd hx hb dL_law_1206 ?_
    refine va_sld hx hb hX hbl hbA hI.2.2.1 hin2 dL_law_1207 ?_
    rw [← ea2]
    have hI2 := hI
    rw [← FW_m] at hI2
    refine jx_callV (rest := []) (as := [.int a1, .int a2]) hx hb hml hts hown hK hE Dj_m hI2 (cM_told G ad M a1 a2 h.2.1.1) kLM_162 ⟨(Nat.le_of_ble_eq_true rfl), (Nat.le_of_ble_eq_true rfl)⟩ (kk := 4) (ii := 0) rfl rfl rfl hl.1 (Nat.le_of_ble_eq_true rfl) dL_law_1208 ⟨by show cells + 2 + 0 ≤ 601024; omega, by show slots + 12 + 0 ≤ 7293034; omega⟩ (fun v w' H locs hp hI => ?_)
    obtain ⟨rfl, rfl⟩ := hp
    rw [FW_m] at hI
    refine lv_istore (lv' := [(7, .int (M_told M a1 a2).1), (6, .int (cdL EIOB EIAE E)), (5, .int (nI (4 * t))), (4, .ref bd), (3, .ref bo), (2, .ref (ad 0)), (1, .ref (Z.A 0 0)), (0, .ref b)]) hx hb dL_law_1211 hl (by decide) rfl (fun ls hl => ?_)
    refine lv_aload_n hx hb dL_law_1213 rfl (lv_at hl 5 rfl) ?_
    have hI3 := hI
    rw [← FW_m] at hI3
    refine jx_callV (rest := []) (as := []) hx hb hml hts hown hK hE Dj_m hI3 (cM_thrown G ad (M_told M a1 a2).2) kLM_107 ⟨(Nat.le_of_ble_eq_true rfl), (Nat.le_of_ble_eq_true rfl)⟩ (kk := 4) (ii := 0) rfl rfl rfl hl.1 (Nat.le_of_ble_eq_true rfl) dL_law_1214 ⟨by show cells + 2 + 0 + 0 ≤ 601024; omega, by show slots + 12 + 0 + 0 ≤ 7293034; omega⟩ (fun v w' H locs hp hI => ?_)
    obtain ⟨rfl, rfl⟩ := hp
    rw [FW_m] at hI
    refine lv_iload (rest := [.int (M_thrown (M_told M a1 a2).2)]) hx hb dL_law_1217 (lv_at hl 1 rfl) ?_
    refine lv_icmp_eq (tgt := 1224) hx hb dL_law_1219 (by decide) (fun _ => ?_) (fun h0 => absurd s29 h0)
    refine lv_iload hx hb dL_law_1224 (lv_at hl 1 rfl) ?_
    refine lv_if_ne (tgt := 1241) hx hb dL_law_1226 (by decide) (fun _ => ?_) (fun h0 => absurd h0 cdL_ne)
    refine lv_goto (tgt := 1899) hx hb dL_law_1241 (by decide) ?_
    refine W.widen (k := cells + 5) (n := slots + 802) (by show cells + 2 + 0 + 0 ≤ cells + 5; omega) (by show slots + 12 + 0 + 0 ≤ slots + 802; omega) ?_
    exact K _ _ _ _ _ _ _ _ hR rfl hI (lv_sub hl [2, 3, 4, 5, 6, 7] rfl)
theorem kLM_166 : CkV "IcehighwayLaw" 166 yX4_thickness cX4_thickness 3 (some .double) 2 := ⟨q1034, q1031, q1032, q1033, q5, by decide +kernel⟩
set_option maxHeartbeats 4000000 in
set_option maxRecDepth 100000 in
theorem law_c17 {p : Program} {e : Env} {s : State} {m : MethodId} {below : List Frame} {meth : Method} {c : Code} {b L : Nat} {xs : Nat → Int32} {Q : State → Prop} {G : GX} {A : Nat → Prop} (C0 : LCtx p s m c b L xs G A) (hL : L ≤ 2048) {t : Nat} (hi : 4 * t + 4 ≤ L) {Z : XZ} {S : XS} {M : MS} {ad : Nat → Nat} {bo bd : Nat} {f : Nat → Int64} {g : Nat → UInt64} {H : Heap} {locs : List Loc} {ls : Array Slot} {cells slots : Nat} (h : RXA Z S M t) (hI : fI G.2.2.1 A s.heap (FW G.2.2.2 G.2.1 Z S ad M bo f bd g) H locs) (hl : lv_has ls 9 [(5, .int (nI (4 * t))), (4, .ref bd), (3, .ref bo), (2, .ref (ad 0)), (1, .ref (Z.A 0 0)), (0, .ref b)]) (hcs : cells + 5 ≤ 601024 ∧ slots + 802 ≤ 7293034) (K : LK p e s m below meth c b Q G A ad bo bd (Z.A 0 0) t cells slots) : W p G.1 e room_1 s m #[Value.ref b] below meth c H locs cells slots Q (F0 m 1244 ls []) := by
  obtain ⟨hx, hb, hml, hts, hown, hK, hE, hX, hbl, hbA, hst0⟩ := C0
  have ht : t < 512 := by omega
  obtain ⟨a1, ea1⟩ : ∃ z, z = xs (nI (4 * t) + 1).toNatClampNeg := ⟨_, rfl⟩
  have hin1 : vp_in (nI (4 * t) + 1) L := sc_in (k := 1) rfl (by omega) hL
  obtain ⟨a2, ea2⟩ : ∃ z, z = xs (nI (4 * t) + 2).toNatClampNeg := ⟨_, rfl⟩
  have hin2 : vp_in (nI (4 * t) + 2) L := sc_in (k := 2) rfl (by omega) hL
  by_cases hz : a2 = 0
  · have hst := st_thickness h ht a1 0
    refine lv_aload_n hx hb dL_law_1244 rfl (lv_at hl 4 rfl) ?_
    refine lv_aload_n hx hb dL_law_1245 rfl (lv_at hl 5 rfl) ?_
    refine lv_iload hx hb dL_law_1246 (lv_at hl 0 rfl) ?_
    refine lv_iconst (v := 1) hx hb dL_law_1248 (by decide) ?_
    refine lv_iadd hx hb dL_law_1249 ?_
    refine va_sld hx hb hX hbl hbA hI.2.2.1 hin1 dL_law_1250 ?_
    rw [← ea1]
    refine lv_aload_n hx hb dL_law_1251 rfl (lv_at hl 5 rfl) ?_
    refine lv_iload hx hb dL_law_1252 (lv_at hl 0 rfl) ?_
    refine lv_iconst (v := 2) hx hb dL_law_1254 (by decide) ?_
    refine lv_iadd hx hb dL_law_1255 ?_
    refine va_sld hx hb hX hbl hbA hI.2.2.1 hin2 dL_law_1256 ?_
    rw [← ea2]
    refine lv_if_eq (tgt := 1264) hx hb dL_law_1257 (by decide) (fun _ => ?_) (fun h0 => absurd hz h0)
    refine lv_iconst (v := 0) hx hb dL_law_1264 (by decide) ?_
    refine lv_aload hx hb dL_law_1265 (lv_at hl 1 rfl) ?_
    have hI1 : fI G.2.2.1 A s.heap (jn (jn (xW G.2.2.2 G.2.1 Z S) (oD G.2.2.2 bd g)) (jn (mW G.2.2.2 ad M) (oW G.2.2.2 bo f))) H locs := by rw [FW_d]; exact hI
    refine jx_callH (rest := []) (as := [.ref (Z.A 0 0), .int a1, .int 0, .ref bd]) hx hb hml hts hown hK hE Dj_d hI1 (cL_thicknessw G hst0 Z S bd g a1 0 h.1.1) kH_thickness ⟨(Nat.le_of_ble_eq_true rfl), (Nat.le_of_ble_eq_true rfl)⟩ hl.1 (Nat.le_of_ble_eq_true rfl) dL_law_1267 ⟨by show cells + 1 ≤ 601024; omega, by show slots + 6 ≤ 7293034; omega⟩ (fun v w' H locs hp hI => ?_)
    rcases hp with ⟨x9, w9, ⟨hT, hx9, rfl⟩, rfl, rfl⟩ | ⟨E9, ⟨hT, hw9⟩, rfl, rfl⟩
    · rcases hst with ⟨sT, s29, sx, hR⟩ | ⟨E, sT, -⟩
      rotate_left
      · exact absurd (hT.symm.trans sT) (fun z => nomatch z)
      cases hx9
      rw [FW_d] at hI
      refine lv_istore (lv' := [(6, .int (0)), (5, .int (nI (4 * t))), (4, .ref bd), (3, .ref bo), (2, .ref (ad 0)), (1, .ref (Z.A 0 0)), (0, .ref b)]) hx hb dL_law_1270 hl (by decide) rfl (fun ls hl => ?_)
      refine lv_aload_n hx hb dL_law_1272 rfl (lv_at hl 4 rfl) ?_
      refine lv_aload_n hx hb dL_law_1273 rfl (lv_at hl 6 rfl) ?_
      refine lv_iload hx hb dL_law_1274 (lv_at hl 1 rfl) ?_
      refine lv_iconst (v := 1) hx hb dL_law_1276 (by decide) ?_
      refine lv_iadd hx hb dL_law_1277 ?_
      refine va_sld hx hb hX hbl hbA hI.2.2.1 hin1 dL_law_1278 ?_
      rw [← ea1]
      refine lv_aload_n hx hb dL_law_1279 rfl (lv_at hl 6 rfl) ?_
      refine lv_iload hx hb dL_law_1280 (lv_at hl 1 rfl) ?_
      refine lv_iconst (v := 2) hx hb dL_law_1282 (by decide) ?_
      refine lv_iadd hx hb dL_law_1283 ?_
      refine va_sld hx hb hX hbl hbA hI.2.2.1 hin2 dL_law_1284 ?_
      rw [← ea2]
      refine lv_if_eq (tgt := 1292) hx hb dL_law_1285 (by decide) (fun _ => ?_) (fun h0 => absurd hz h0)
      refine lv_iconst (v := 0) hx hb dL_law_1292 (by decide) ?_
      have hI2 := hI
      rw [← FW_m] at hI2
      refine jx_callV (rest := []) (as := [.int a1, .int 0]) hx hb hml hts hown hK hE Dj_m hI2 (cM_thickness G ad M a1 0 h.2.1.1) kLM_166 ⟨(Nat.le_of_ble_eq_true rfl), (Nat.le_of_ble_eq_true rfl)⟩ (kk := 4) (ii := 0) rfl rfl rfl hl.1 (Nat.le_of_ble_eq_true rfl) dL_law_1293 ⟨by show cells + 1 + 0 ≤ 601024; omega, by show slots + 6 + 0 ≤ 7293034; omega⟩ (fun v w' H locs hp hI => ?_)
      obtain ⟨rfl, rfl⟩ := hp
      rw [FW_m] at hI
      refine lv_dstore (lv' := [(7, .double (M_thickness M a1 0).1), (6, .int (0)), (5, .int (nI (4 * t))), (4, .ref bd), (3, .ref bo), (2, .ref (ad 0)), (1, .ref (Z.A 0 0)), (0, .ref b)]) hx hb dL_law_1296 hl (by decide) rfl (fun ls hl => ?_)
      refine lv_aload_n hx hb dL_law_1298 rfl (lv_at hl 5 rfl) ?_
      have hI3 := hI
      rw [← FW_m] at hI3
      refine jx_callV (rest := []) (as := []) hx hb hml hts hown hK hE Dj_m hI3 (cM_thrown G ad (M_thickness M a1 0).2) kLM_107 ⟨(Nat.le_of_ble_eq_true rfl), (Nat.le_of_ble_eq_true rfl)⟩ (kk := 4) (ii := 0) rfl rfl rfl hl.1 (Nat.le_of_ble_eq_true rfl) dL_law_1299 ⟨by show cells + 1 + 0 + 0 ≤ 601024; omega, by show slots + 6 + 0 + 0 ≤ 7293034; omega⟩ (fun v w' H locs hp hI => ?_)
      obtain ⟨rfl, rfl⟩ := hp
      rw [FW_m] at hI
      refine lv_iload (rest := [.int (M_thrown (M_thickness M a1 0).2)]) hx hb dL_law_1302 (lv_at hl 1 rfl) ?_
      refine lv_icmp_eq (tgt := 1309) hx hb dL_law_1304 (by decide) (fun _ => ?_) (fun h0 => absurd s29 h0)
      refine lv_iload hx hb dL_law_1309 (lv_at hl 1 rfl) ?_
      refine lv_if_ne (tgt := 1346) hx hb dL_law_1311 (by decide) (fun h0 => absurd rfl h0) (fun _ => ?_)
      refine lv_aload hx hb dL_law_1314 (lv_at hl 3 rfl) ?_
      refine lv_iconst (v := 0) hx hb dL_law_1316 (by decide) ?_
      refine fx_dald (k := 11) (j := 0) (n := 1) hx hb hK hI FW_11 (i := 0) (by unfold vp_in; decide) dL_law_1317 ?_
      rw [at_D sx]
      refine lv_dload hx hb dL_law_1318 (lv_at hl 0 rfl) ?_
      refine lv_dcmp hx hb dL_law_1320 ?_
      refine lv_if_eq (tgt := 1346) hx hb dL_law_1321 (by decide) (fun _ => ?_) (fun hn => ?_)
      · refine lv_goto (tgt := 1899) hx hb dL_law_1346 (by decide) ?_
        refine W.widen (k := cells + 5) (n := slots + 802) (by show cells + 1 + 0 + 0 ≤ cells + 5; omega) (by show slots + 6 + 0 + 0 ≤ slots + 802; omega) ?_
        exact K _ _ _ _ _ _ _ _ hR rfl hI (lv_sub hl [2, 3, 4, 5, 6, 7] rfl)
      · refine lv_aload hx hb dL_law_1324 (lv_at hl 3 rfl) ?_
        refine lv_iconst (v := 0) hx hb dL_law_1326 (by decide) ?_
        refine fx_dald (k := 11) (j := 0) (n := 1) hx hb hK hI FW_11 (i := 0) (by unfold vp_in; decide) dL_law_1327 ?_
        rw [at_D sx]
        refine lv_aload hx hb dL_law_1328 (lv_at hl 3 rfl) ?_
        refine lv_iconst (v := 0) hx hb dL_law_1330 (by decide) ?_
        refine fx_dald (k := 11) (j := 0) (n := 1) hx hb hK hI FW_11 (i := 0) (by unfold vp_in; decide) dL_law_1331 ?_
        rw [at_D sx]
        refine lv_dcmp hx hb dL_law_1332 ?_
        refine lv_if_eq (tgt := 1344) hx hb dL_law_1333 (by decide) (fun h0 => absurd h0 hn) (fun _ => ?_)
        refine lv_dload hx hb dL_law_1336 (lv_at hl 0 rfl) ?_
        refine lv_dload hx hb dL_law_1338 (lv_at hl 0 rfl) ?_
        refine lv_dcmp hx hb dL_law_1340 ?_
        refine lv_if_ne (tgt := 1346) hx hb dL_law_1341 (by decide) (fun _ => ?_) (fun h0 => absurd h0 hn)
        refine lv_goto (tgt := 1899) hx hb dL_law_1346 (by decide) ?_
        refine W.widen (k := cells + 5) (n := slots + 802) (by show cells + 1 + 0 + 0 ≤ cells + 5; omega) (by show slots + 6 + 0 + 0 ≤ slots + 802; omega) ?_
        exact K _ _ _ _ _ _ _ _ hR rfl hI (lv_sub hl [2, 3, 4, 5, 6, 7] rfl)
    · rcases hst with ⟨sT, -⟩ | ⟨E, sT, s29, hR⟩
      · exact absurd (hT.symm.trans sT) (fun z => nomatch z)
      have hEE : E = E9 := Option.some.inj (sT.symm.trans hT)
      subst hEE
      rw [FW_d] at hI
      refine lv_istore (lv' := [(6, .int (cdL EIOB "" E)), (5, .int (nI (4 * t))), (4, .ref bd), (3, .ref bo), (2, .ref (ad 0)), (1, .ref (Z.A 0 0)), (0, .ref b)]) hx hb dL_law_1270 hl (by decide) rfl (fun ls hl => ?_)
      refine lv_aload_n hx hb dL_law_1272 rfl (lv_at hl 4 rfl) ?_
      refine lv_aload_n hx hb dL_law_1273 rfl (lv_at hl 6 rfl) ?_
      refine lv_iload hx hb dL_law_1274 (lv_at hl 1 rfl) ?_
      refine lv_iconst (v := 1) hx hb dL_law_1276 (by decide) ?_
      refine lv_iadd hx hb dL_law_1277 ?_
      refine va_sld hx hb hX hbl hbA hI.2.2.1 hin1 dL_law_1278 ?_
      rw [← ea1]
      refine lv_aload_n hx hb dL_law_1279 rfl (lv_at hl 6 rfl) ?_
      refine lv_iload hx hb dL_law_1280 (lv_at hl 1 rfl) ?_
      refine lv_iconst (v := 2) hx hb dL_law_1282 (by decide) ?_
      refine lv_iadd hx hb dL_law_1283 ?_
      refine va_sld hx hb hX hbl hbA hI.2.2.1 hin2 dL_law_1284 ?_
      rw [← ea2]
      refine lv_if_eq (tgt := 1292) hx hb dL_law_1285 (by decide) (fun _ => ?_) (fun h0 => absurd hz h0)
      refine lv_iconst (v := 0) hx hb dL_law_1292 (by decide) ?_
      have hI2 := hI
      rw [← FW_m] at hI2
      refine jx_callV (rest := []) (as := [.int a1, .int 0]) hx hb hml hts hown hK hE Dj_m hI2 (cM_thickness G ad M a1 0 h.2.1.1) kLM_166 ⟨(Nat.le_of_ble_eq_true rfl), (Nat.le_of_ble_eq_true rfl)⟩ (kk := 4) (ii := 0) rfl rfl rfl hl.1 (Nat.le_of_ble_eq_true rfl) dL_law_1293 ⟨by show cells + 1 + 0 ≤ 601024; omega, by show slots + 6 + 0 ≤ 7293034; omega⟩ (fun v w' H locs hp hI => ?_)
      obtain ⟨rfl, rfl⟩ := hp
      rw [FW_m] at hI
      refine lv_dstore (lv' := [(7, .double (M_thickness M a1 0).1), (6, .int (cdL EIOB "" E)), (5, .int (nI (4 * t))), (4, .ref bd), (3, .ref bo), (2, .ref (ad 0)), (1, .ref (Z.A 0 0)), (0, .ref b)]) hx hb dL_law_1296 hl (by decide) rfl (fun ls hl => ?_)
      refine lv_aload_n hx hb dL_law_1298 rfl (lv_at hl 5 rfl) ?_
      have hI3 := hI
      rw [← FW_m] at hI3
      refine jx_callV (rest := []) (as := []) hx hb hml hts hown hK hE Dj_m hI3 (cM_thrown G ad (M_thickness M a1 0).2) kLM_107 ⟨(Nat.le_of_ble_eq_true rfl), (Nat.le_of_ble_eq_true rfl)⟩ (kk := 4) (ii := 0) rfl rfl rfl hl.1 (Nat.le_of_ble_eq_true rfl) dL_law_1299 ⟨by show cells + 1 + 0 + 0 ≤ 601024; omega, by show slots + 6 + 0 + 0 ≤ 7293034; omega⟩ (fun v w' H locs hp hI => ?_)
      obtain ⟨rfl, rfl⟩ := hp
      rw [FW_m] at hI
      refine lv_iload (rest := [.int (M_thrown (M_thickness M a1 0).2)]) hx hb dL_law_1302 (lv_at hl 1 rfl) ?_
      refine lv_icmp_eq (tgt := 1309) hx hb dL_law_1304 (by decide) (fun _ => ?_) (fun h0 => absurd s29 h0)
      refine lv_iload hx hb dL_law_1309 (lv_at hl 1 rfl) ?_
      refine lv_if_ne (tgt := 1346) hx hb dL_law_1311 (by decide) (fun _ => ?_) (fun h0 => absurd h0 cdL_ne)
      refine lv_goto (tgt := 1899) hx hb dL_law_1346 (by decide) ?_
      refine W.widen (k := cells + 5) (n := slots + 802) (by show cells + 1 + 0 + 0 ≤ cells + 5; omega) (by show slots + 6 + 0 + 0 ≤ slots + 802; omega) ?_
      exact K _ _ _ _ _ _ _ _ hR rfl hI (lv_sub hl [2, 3, 4, 5, 6, 7] rfl)
  · have hst := st_thickness h ht a1 1
    refine lv_aload_n hx hb dL_law_1244 rfl (lv_at hl 4 rfl) ?_
    refine lv_aload_n hx hb dL_law_1245 rfl (lv_at hl 5 rfl) ?_
    refine lv_iload hx hb dL_law_1246 (lv_at hl 0 rfl) ?_
    refine lv_iconst (v := 1) hx hb dL_law_1248 (by decide) ?_
    refine lv_iadd hx hb dL_law_1249 ?_
    refine va_sld hx hb hX hbl hbA hI.2.2.1 hin1 dL_law_1250 ?_
    rw [← ea1]
    refine lv_aload_n hx hb dL_law_1251 rfl (lv_at hl 5 rfl) ?_
    refine lv_iload hx hb dL_law_1252 (lv_at hl 0 rfl) ?_
    refine lv_iconst (v := 2) hx hb dL_law_1254 (by decide) ?_
    refine lv_iadd hx hb dL_law_1255 ?_
    refine va_sld hx hb hX hbl hbA hI.2.2.1 hin2 dL_law_1256 ?_
    rw [← ea2]
    refine lv_if_eq (tgt := 1264) hx hb dL_law_1257 (by decide) (fun h0 => absurd h0 hz) (fun _ => ?_)
    refine lv_iconst (v := 1) hx hb dL_law_1260 (by decide) ?_
    refine lv_goto (tgt := 1265) hx hb dL_law_1261 (by decide) ?_
    refine lv_aload hx hb dL_law_1265 (lv_at hl 1 rfl) ?_
    have hI1 : fI G.2.2.1 A s.heap (jn (jn (xW G.2.2.2 G.2.1 Z S) (oD G.2.2.2 bd g)) (jn (mW G.2.2.2 ad M) (oW G.2.2.2 bo f))) H locs := by rw [FW_d]; exact hI
    refine jx_callH (rest := []) (as := [.ref (Z.A 0 0), .int a1, .int 1, .ref bd]) hx hb hml hts hown hK hE Dj_d hI1 (cL_thicknessw G hst0 Z S bd g a1 1 h.1.1) kH_thickness ⟨(Nat.le_of_ble_eq_true rfl), (Nat.le_of_ble_eq_true rfl)⟩ hl.1 (Nat.le_of_ble_eq_true rfl) dL_law_1267 ⟨by show cells + 1 ≤ 601024; omega, by show slots + 6 ≤ 7293034; omega⟩ (fun v w' H locs hp hI => ?_)
    rcases hp with ⟨x9, w9, ⟨hT, hx9, rfl⟩, rfl, rfl⟩ | ⟨E9, ⟨hT, hw9⟩, rfl, rfl⟩
    · rcases hst with ⟨sT, s29, sx, hR⟩ | ⟨E, sT, -⟩
      rotate_left
      · exact absurd (hT.symm.trans sT) (fun z => nomatch z)
      cases hx9
      rw [FW_d] at hI
      refine lv_istore (lv' := [(6, .int (0)), (5, .int (nI (4 * t))), (4, .ref bd), (3, .ref bo), (2, .ref (ad 0)), (1, .ref (Z.A 0 0)), (0, .ref b)]) hx hb dL_law_1270 hl (by decide) rfl (fun ls hl => ?_)
      refine lv_aload_n hx hb dL_law_1272 rfl (lv_at hl 4 rfl) ?_
      refine lv_aload_n hx hb dL_law_1273 rfl (lv_at hl 6 rfl) ?_
      refine lv_iload hx hb dL_law_1274 (lv_at hl 1 rfl) ?_
      refine lv_iconst (v := 1) hx hb dL_law_1276 (by decide) ?_
      refine lv_iadd hx hb dL_law_1277 ?_
      refine va_sld hx hb hX hbl hbA hI.2.2.1 hin1 dL_law_1278 ?_
      rw [← ea1]
      refine lv_aload_n hx hb dL_law_1279 rfl (lv_at hl 6 rfl) ?_
      refine lv_iload hx hb dL_law_1280 (lv_at hl 1 rfl) ?_
      refine lv_iconst (v := 2) hx hb dL_law_1282 (by decide) ?_
      refine lv_iadd hx hb dL_law_1283 ?_
      refine va_sld hx hb hX hbl hbA hI.2.2.1 hin2 dL_law_1284 ?_
      rw [← ea2]
      refine lv_if_eq (tgt := 1292) hx hb dL_law_1285 (by decide) (fun h0 => absurd h0 hz) (fun _ => ?_)
      refine lv_iconst (v := 1) hx hb dL_law_1288 (by decide) ?_
      refine lv_goto (tgt := 1293) hx hb dL_law_1289 (by decide) ?_
      have hI2 := hI
      rw [← FW_m] at hI2
      refine jx_callV (rest := []) (as := [.int a1, .int 1]) hx hb hml hts hown hK hE Dj_m hI2 (cM_thickness G ad M a1 1 h.2.1.1) kLM_166 ⟨(Nat.le_of_ble_eq_true rfl), (Nat.le_of_ble_eq_true rfl)⟩ (kk := 4) (ii := 0) rfl rfl rfl hl.1 (Nat.le_of_ble_eq_true rfl) dL_law_1293 ⟨by show cells + 1 + 0 ≤ 601024; omega, by show slots + 6 + 0 ≤ 7293034; omega⟩ (fun v w' H locs hp hI => ?_)
      obtain ⟨rfl, rfl⟩ := hp
      rw [FW_m] at hI
      refine lv_dstore (lv' := [(7, .double (M_thickness M a1 1).1), (6, .int (0)), (5, .int (nI (4 * t))), (4, .ref bd), (3, .ref bo), (2, .ref (ad 0)), (1, .ref (Z.A 0 0)), (0, .ref b)]) hx hb dL_law_1296 hl (by decide) rfl (fun ls hl => ?_)
      refine lv_aload_n hx hb dL_law_1298 rfl (lv_at hl 5 rfl) ?_
      have hI3 := hI
      rw [← FW_m] at hI3
      refine jx_callV (rest := []) (as := []) hx hb hml hts hown hK hE Dj_m hI3 (cM_thrown G ad (M_thickness M a1 1).2) kLM_107 ⟨(Nat.le_of_ble_eq_true rfl), (Nat.le_of_ble_eq_true rfl)⟩ (kk := 4) (ii := 0) rfl rfl rfl hl.1 (Nat.le_of_ble_eq_true rfl) dL_law_1299 ⟨by show cells + 1 + 0 + 0 ≤ 601024; omega, by show slots + 6 + 0 + 0 ≤ 7293034; omega⟩ (fun v w' H locs hp hI => ?_)
      obtain ⟨rfl, rfl⟩ := hp
      rw [FW_m] at hI
      refine lv_iload (rest := [.int (M_thrown (M_thickness M a1 1).2)]) hx hb dL_law_1302 (lv_at hl 1 rfl) ?_
      refine lv_icmp_eq (tgt := 1309) hx hb dL_law_1304 (by decide) (fun _ => ?_) (fun h0 => absurd s29 h0)
      refine lv_iload hx hb dL_law_1309 (lv_at hl 1 rfl) ?_
      refine lv_if_ne (tgt := 1346) hx hb dL_law_1311 (by decide) (fun h0 => absurd rfl h0) (fun _ => ?_)
      refine lv_aload hx hb dL_law_1314 (lv_at hl 3 rfl) ?_
      refine lv_iconst (v := 0) hx hb dL_law_1316 (by decide) ?_
      refine fx_dald (k := 11) (j := 0) (n := 1) hx hb hK hI FW_11 (i := 0) (by unfold vp_in; decide) dL_law_1317 ?_
      rw [at_D sx]
      refine lv_dload hx hb dL_law_1318 (lv_at hl 0 rfl) ?_
      refine lv_dcmp hx hb dL_law_1320 ?_
      refine lv_if_eq (tgt := 1346) hx hb dL_law_1321 (by decide) (fun _ => ?_) (fun hn => ?_)
      · refine lv_goto (tgt := 1899) hx hb dL_law_1346 (by decide) ?_
        refine W.widen (k := cells + 5) (n := slots + 802) (by show cells + 1 + 0 + 0 ≤ cells + 5; omega) (by show slots + 6 + 0 + 0 ≤ slots + 802; omega) ?_
        exact K _ _ _ _ _ _ _ _ hR rfl hI (lv_sub hl [2, 3, 4, 5, 6, 7] rfl)
      · refine lv_aload hx hb dL_law_1324 (lv_at hl 3 rfl) ?_
        refine lv_iconst (v := 0) hx hb dL_law_1326 (by decide) ?_
        refine fx_dald (k := 11) (j := 0) (n := 1) hx hb hK hI FW_11 (i := 0) (by unfold vp_in; decide) dL_law_1327 ?_
        rw [at_D sx]
        refine lv_aload hx hb dL_law_1328 (lv_at hl 3 rfl) ?_
        refine lv_iconst (v := 0) hx hb dL_law_1330 (by decide) ?_
        refine fx_dald (k := 11) (j := 0) (n := 1) hx hb hK hI FW_11 (i := 0) (by unfold vp_in; decide) dL_law_1331 ?_
        rw [at_D sx]
        refine lv_dcmp hx hb dL_law_1332 ?_
        refine lv_if_eq (tgt := 1344) hx hb dL_law_1333 (by decide) (fun h0 => absurd h0 hn) (fun _ => ?_)
        refine lv_dload hx hb dL_law_1336 (lv_at hl 0 rfl) ?_
        refine lv_dload hx hb dL_law_1338 (lv_at hl 0 rfl) ?_
        refine lv_dcmp hx hb dL_law_1340 ?_
        refine lv_if_ne (tgt := 1346) hx hb dL_law_1341 (by decide) (fun _ => ?_) (fun h0 => absurd h0 hn)
        refine lv_goto (tgt := 1899) hx hb dL_law_1346 (by decide) ?_
        refine W.widen (k := cells + 5) (n := slots + 802) (by show cells + 1 + 0 + 0 ≤ cells + 5; omega) (by show slots + 6 + 0 + 0 ≤ slots + 802; omega) ?_
        exact K _ _ _ _ _ _ _ _ hR rfl hI (lv_sub hl [2, 3, 4, 5, 6, 7] rfl)
    · rcases hst with ⟨sT, -⟩ | ⟨E, sT, s29, hR⟩
      · exact absurd (hT.symm.trans sT) (fun z => nomatch z)
      have hEE : E = E9 := Option.some.inj (sT.symm.trans hT)
      subst hEE
      rw [FW_d] at hI
      refine lv_istore (lv' := [(6, .int (cdL EIOB "" E)), (5, .int (nI (4 * t))), (4, .ref bd), (3, .ref bo), (2, .ref (ad 0)), (1, .ref (Z.A 0 0)), (0, .ref b)]) hx hb dL_law_1270 hl (by decide) rfl (fun ls hl => ?_)
      refine lv_aload_n hx hb dL_law_1272 rfl (lv_at hl 4 rfl) ?_
      refine lv_aload_n hx hb dL_law_1273 rfl (lv_at hl 6 rfl) ?_
      refine lv_iload hx hb dL_law_1274 (lv_at hl 1 rfl) ?_
      refine lv_iconst (v := 1) hx hb dL_law_1276 (by decide) ?_
      refine lv_iadd hx hb dL_law_1277 ?_
      refine va_sld hx hb hX hbl hbA hI.2.2.1 hin1 dL_law_1278 ?_
      rw [← ea1]
      refine lv_aload_n hx hb dL_law_1279 rfl (lv_at hl 6 rfl) ?_
      refine lv_iload hx hb dL_law_1280 (lv_at hl 1 rfl) ?_
      refine lv_iconst (v := 2) hx hb dL_law_1282 (by decide) ?_
      refine lv_iadd hx hb dL_law_1283 ?_
      refine va_sld hx hb hX hbl hbA hI.2.2.1 hin2 dL_law_1284 ?_
      rw [← ea2]
      refine lv_if_eq (tgt := 1292) hx hb dL_law_1285 (by decide) (fun h0 => absurd h0 hz) (fun _ => ?_)
      refine lv_iconst (v := 1) hx hb dL_law_1288 (by decide) ?_
      refine lv_goto (tgt := 1293) hx hb dL_law_1289 (by decide) ?_
      have hI2 := hI
      rw [← FW_m] at hI2
      refine jx_callV (rest := []) (as := [.int a1, .int 1]) hx hb hml hts hown hK hE Dj_m hI2 (cM_thickness G ad M a1 1 h.2.1.1) kLM_166 ⟨(Nat.le_of_ble_eq_true rfl), (Nat.le_of_ble_eq_true rfl)⟩ (kk := 4) (ii := 0) rfl rfl rfl hl.1 (Nat.le_of_ble_eq_true rfl) dL_law_1293 ⟨by show cells + 1 + 0 ≤ 601024; omega, by show slots + 6 + 0 ≤ 7293034; omega⟩ (fun v w' H locs hp hI => ?_)
      obtain ⟨rfl, rfl⟩ := hp
      rw [FW_m] at hI
      refine lv_dstore (lv' := [(7, .double (M_thickness M a1 1).1), (6, .int (cdL EIOB "" E)), (5, .int (nI (4 * t))), (4, .ref bd), (3, .ref bo), (2, .ref (ad 0)), (1, .ref (Z.A 0 0)), (0, .ref b)]) hx hb dL_law_1296 hl (by decide) rfl (fun ls hl => ?_)
      refine lv_aload_n hx hb dL_law_1298 rfl (lv_at hl 5 rfl) ?_
      have hI3 := hI
      rw [← FW_m] at hI3
      refine jx_callV (rest := []) (as := []) hx hb hml hts hown hK hE Dj_m hI3 (cM_thrown G ad (M_thickness M a1 1).2) kLM_107 ⟨(Nat.le_of_ble_eq_true rfl), (Nat.le_of_ble_eq_true rfl)⟩ (kk := 4) (ii := 0) rfl rfl rfl hl.1 (Nat.le_of_ble_eq_true rfl) dL_law_1299 ⟨by show cells + 1 + 0 + 0 ≤ 601024; omega, by show slots + 6 + 0 + 0 ≤ 7293034; omega⟩ (fun v w' H locs hp hI => ?_)
      obtain ⟨rfl, rfl⟩ := hp
      rw [FW_m] at hI
      refine lv_iload (rest := [.int (M_thrown (M_thickness M a1 1).2)]) hx hb dL_law_1302 (lv_at hl 1 rfl) ?_
      refine lv_icmp_eq (tgt := 1309) hx hb dL_law_1304 (by decide) (fun _ => ?_) (fun h0 => absurd s29 h0)
      refine lv_iload hx hb dL_law_1309 (lv_at hl 1 rfl) ?_
      refine lv_if_ne (tgt := 1346) hx hb dL_law_1311 (by decide) (fun _ => ?_) (fun h0 => absurd h0 cdL_ne)
      refine lv_goto (tgt := 1899) hx hb dL_law_1346 (by decide) ?_
      refine W.widen (k := cells + 5) (n := slots + 802) (by show cells + 1 + 0 + 0 ≤ cells + 5; omega) (by show slots + 6 + 0 + 0 ≤ slots + 802; omega) ?_
      exact K _ _ _ _ _ _ _ _ hR rfl hI (lv_sub hl [2, 3, 4, 5, 6, 7] rfl)
theorem kLM_170 : CkV "IcehighwayLaw" 170 yX4_bears cX4_bears 3 (some .int) 2 := ⟨q1038, q1035, q1036, q1037, q5, by decide +kernel⟩
set_option maxHeartbeats 4000000 in
set_option maxRecDepth 100000 in
theorem law_c18 {p : Program} {e : Env} {s : State} {m : MethodId} {below : List Frame} {meth : Method} {c : Code} {b L : Nat} {xs : Nat → Int32} {Q : State → Prop} {G : GX} {A : Nat → Prop} (C0 : LCtx p s m c b L xs G A) (hL : L ≤ 2048) {t : Nat} (hi : 4 * t + 4 ≤ L) {Z : XZ} {S : XS} {M : MS} {ad : Nat → Nat} {bo bd : Nat} {f : Nat → Int64} {g : Nat → UInt64} {H : Heap} {locs : List Loc} {ls : Array Slot} {cells slots : Nat} (h : RXA Z S M t) (hI : fI G.2.2.1 A s.heap (FW G.2.2.2 G.2.1 Z S ad M bo f bd g) H locs) (hl : lv_has ls 9 [(5, .int (nI (4 * t))), (4, .ref bd), (3, .ref bo), (2, .ref (ad 0)), (1, .ref (Z.A 0 0)), (0, .ref b)]) (hcs : cells + 5 ≤ 601024 ∧ slots + 802 ≤ 7293034) (K : LK p e s m below meth c b Q G A ad bo bd (Z.A 0 0) t cells slots) : W p G.1 e room_1 s m #[Value.ref b] below meth c H locs cells slots Q (F0 m 1349 ls []) := by
  obtain ⟨hx, hb, hml, hts, hown, hK, hE, hX, hbl, hbA, hst0⟩ := C0
  have ht : t < 512 := by omega
  obtain ⟨a1, ea1⟩ : ∃ z, z = xs (nI (4 * t) + 1).toNatClampNeg := ⟨_, rfl⟩
  have hin1 : vp_in (nI (4 * t) + 1) L := sc_in (k := 1) rfl (by omega) hL
  obtain ⟨a2, ea2⟩ : ∃ z, z = xs (nI (4 * t) + 2).toNatClampNeg := ⟨_, rfl⟩
  have hin2 : vp_in (nI (4 * t) + 2) L := sc_in (k := 2) rfl (by omega) hL
  by_cases hz : a2 = 0
  · have hst := st_bears h ht a1 0
    refine lv_aload_n hx hb dL_law_1349 rfl (lv_at hl 4 rfl) ?_
    refine lv_aload_n hx hb dL_law_1350 rfl (lv_at hl 5 rfl) ?_
    refine lv_iload hx hb dL_law_1351 (lv_at hl 0 rfl) ?_
    refine lv_iconst (v := 1) hx hb dL_law_1353 (by decide) ?_
    refine lv_iadd hx hb dL_law_1354 ?_
    refine va_sld hx hb hX hbl hbA hI.2.2.1 hin1 dL_law_1355 ?_
    rw [← ea1]
    refine lv_aload_n hx hb dL_law_1356 rfl (lv_at hl 5 rfl) ?_
    refine lv_iload hx hb dL_law_1357 (lv_at hl 0 rfl) ?_
    refine lv_iconst (v := 2) hx hb dL_law_1359 (by decide) ?_
    refine lv_iadd hx hb dL_law_1360 ?_
    refine va_sld hx hb hX hbl hbA hI.2.2.1 hin2 dL_law_1361 ?_
    rw [← ea2]
    refine lv_if_eq (tgt := 1369) hx hb dL_law_1362 (by decide) (fun _ => ?_) (fun h0 => absurd hz h0)
    refine lv_iconst (v := 0) hx hb dL_law_1369 (by decide) ?_
    refine lv_aload_n hx hb dL_law_1370 rfl (lv_at hl 2 rfl) ?_
    have hI1 : fI G.2.2.1 A s.heap (jn (jn (xW G.2.2.2 G.2.1 Z S) (oW G.2.2.2 bo f)) (jn (mW G.2.2.2 ad M) (oD G.2.2.2 bd g))) H locs := by rw [FW_w]; exact hI
    refine jx_callH (rest := []) (as := [.ref (Z.A 0 0), .int a1, .int 0, .ref bo]) hx hb hml hts hown hK hE Dj_w hI1 (cL_bearsw G hst0 Z S bo f a1 0 h.1.1) kH_bears ⟨(Nat.le_of_ble_eq_true rfl), (Nat.le_of_ble_eq_true rfl)⟩ hl.1 (Nat.le_of_ble_eq_true rfl) dL_law_1371 ⟨by show cells + 1 ≤ 601024; omega, by show slots + 6 ≤ 7293034; omega⟩ (fun v w' H locs hp hI => ?_)
    rcases hp with ⟨x9, w9, ⟨hT, hx9, rfl⟩, rfl, rfl⟩ | ⟨E9, ⟨hT, hw9⟩, rfl, rfl⟩
    · rcases hst with ⟨sT, s29, sx, hR⟩ | ⟨E, sT, -⟩
      rotate_left
      · exact absurd (hT.symm.trans sT) (fun z => nomatch z)
      cases hx9
      rw [FW_w] at hI
      refine lv_istore (lv' := [(6, .int (0)), (5, .int (nI (4 * t))), (4, .ref bd), (3, .ref bo), (2, .ref (ad 0)), (1, .ref (Z.A 0 0)), (0, .ref b)]) hx hb dL_law_1374 hl (by decide) rfl (fun ls hl => ?_)
      refine lv_aload_n hx hb dL_law_1376 rfl (lv_at hl 4 rfl) ?_
      refine lv_aload_n hx hb dL_law_1377 rfl (lv_at hl 6 rfl) ?_
      refine lv_iload hx hb dL_law_1378 (lv_at hl 1 rfl) ?_
      refine lv_iconst (v := 1) hx hb dL_law_1380 (by decide) ?_
      refine lv_iadd hx hb dL_law_1381 ?_
      refine va_sld hx hb hX hbl hbA hI.2.2.1 hin1 dL_law_1382 ?_
      rw [← ea1]
      refine lv_aload_n hx hb dL_law_1383 rfl (lv_at hl 6 rfl) ?_
      refine lv_iload hx hb dL_law_1384 (lv_at hl 1 rfl) ?_
      refine lv_iconst (v := 2) hx hb dL_law_1386 (by decide) ?_
      refine lv_iadd hx hb dL_law_1387 ?_
      refine va_sld hx hb hX hbl hbA hI.2.2.1 hin2 dL_law_1388 ?_
      rw [← ea2]
      refine lv_if_eq (tgt := 1396) hx hb dL_law_1389 (by decide) (fun _ => ?_) (fun h0 => absurd hz h0)
      refine lv_iconst (v := 0) hx hb dL_law_1396 (by decide) ?_
      have hI2 := hI
      rw [← FW_m] at hI2
      refine jx_callV (rest := []) (as := [.int a1, .int 0]) hx hb hml hts hown hK hE Dj_m hI2 (cM_bears G ad M a1 0 h.2.1.1) kLM_170 ⟨(Nat.le_of_ble_eq_true rfl), (Nat.le_of_ble_eq_true rfl)⟩ (kk := 4) (ii := 0) rfl rfl rfl hl.1 (Nat.le_of_ble_eq_true rfl) dL_law_1397 ⟨by show cells + 1 + 0 ≤ 601024; omega, by show slots + 6 + 0 ≤ 7293034; omega⟩ (fun v w' H locs hp hI => ?_)
      obtain ⟨rfl, rfl⟩ := hp
      rw [FW_m] at hI
      refine lv_istore (lv' := [(7, .int (M_bears M a1 0).1), (6, .int (0)), (5, .int (nI (4 * t))), (4, .ref bd), (3, .ref bo), (2, .ref (ad 0)), (1, .ref (Z.A 0 0)), (0, .ref b)]) hx hb dL_law_1400 hl (by decide) rfl (fun ls hl => ?_)
      refine lv_aload_n hx hb dL_law_1402 rfl (lv_at hl 5 rfl) ?_
      have hI3 := hI
      rw [← FW_m] at hI3
      refine jx_callV (rest := []) (as := []) hx hb hml hts hown hK hE Dj_m hI3 (cM_thrown G ad (M_bears M a1 0).2) kLM_107 ⟨(Nat.le_of_ble_eq_true rfl), (Nat.le_of_ble_eq_true rfl)⟩ (kk := 4) (ii := 0) rfl rfl rfl hl.1 (Nat.le_of_ble_eq_true rfl) dL_law_1403 ⟨by show cells + 1 + 0 + 0 ≤ 601024; omega, by show slots + 6 + 0 + 0 ≤ 7293034; omega⟩ (fun v w' H locs hp hI => ?_)
      obtain ⟨rfl, rfl⟩ := hp
      rw [FW_m] at hI
      refine lv_iload (rest := [.int (M_thrown (M_bears M a1 0).2)]) hx hb dL_law_1406 (lv_at hl 1 rfl) ?_
      refine lv_icmp_eq (tgt := 1413) hx hb dL_law_1408 (by decide) (fun _ => ?_) (fun h0 => absurd s29 h0)
      refine lv_iload hx hb dL_law_1413 (lv_at hl 1 rfl) ?_
      refine lv_if_ne (tgt := 1430) hx hb dL_law_1415 (by decide) (fun h0 => absurd rfl h0) (fun _ => ?_)
      refine lv_aload_n hx hb dL_law_1418 rfl (lv_at hl 4 rfl) ?_
      refine lv_iconst (v := 0) hx hb dL_law_1419 (by decide) ?_
      refine fx_lald (k := 10) (j := 0) (n := 1) hx hb hK hI FW_10 (i := 0) (by unfold vp_in; decide) dL_law_1420 ?_
      refine lv_iload hx hb dL_law_1421 (lv_at hl 0 rfl) ?_
      refine lv_i2l hx hb dL_law_1423 rfl ?_
      refine W.lcmp hx hb dL_law_1424 ?_
      refine lv_if_eq (tgt := 1430) hx hb dL_law_1425 (by decide) (fun _ => ?_) (fun h0 => absurd (cmpI sx) h0)
      refine lv_goto (tgt := 1899) hx hb dL_law_1430 (by decide) ?_
      refine W.widen (k := cells + 5) (n := slots + 802) (by show cells + 1 + 0 + 0 ≤ cells + 5; omega) (by show slots + 6 + 0 + 0 ≤ slots + 802; omega) ?_
      exact K _ _ _ _ _ _ _ _ hR rfl hI (lv_sub hl [2, 3, 4, 5, 6, 7] rfl)
    · rcases hst with ⟨sT, -⟩ | ⟨E, sT, s29, hR⟩
      · exact absurd (hT.symm.trans sT) (fun z => nomatch z)
      have hEE : E = E9 := Option.some.inj (sT.symm.trans hT)
      subst hEE
      rw [FW_w] at hI
      refine lv_istore (lv' := [(6, .int (cdL EIOB "" E)), (5, .int (nI (4 * t))), (4, .ref bd), (3, .ref bo), (2, .ref (ad 0)), (1, .ref (Z.A 0 0)), (0, .ref b)]) hx hb dL_law_1374 hl (by decide) rfl (fun ls hl => ?_)
      refine lv_aload_n hx hb dL_law_1376 rfl (lv_at hl 4 rfl) ?_
      refine lv_aload_n hx hb dL_law_1377 rfl (lv_at hl 6 rfl) ?_
      refine lv_iload hx hb dL_law_1378 (lv_at hl 1 rfl) ?_
      refine lv_iconst (v := 1) hx hb dL_law_1380 (by decide) ?_
      refine lv_iadd hx hb dL_law_1381 ?_
      refine va_sld hx hb hX hbl hbA hI.2.2.1 hin1 dL_law_1382 ?_
      rw [← ea1]
      refine lv_aload_n hx hb dL_law_1383 rfl (lv_at hl 6 rfl) ?_
      refine lv_iload hx hb dL_law_1384 (lv_at hl 1 rfl) ?_
      refine lv_iconst (v := 2) hx hb dL_law_1386 (by decide) ?_
      refine lv_iadd hx hb dL_law_1387 ?_
      refine va_sld hx hb hX hbl hbA hI.2.2.1 hin2 dL_law_1388 ?_
      rw [← ea2]
      refine lv_if_eq (tgt := 1396) hx hb dL_law_1389 (by decide) (fun _ => ?_) (fun h0 => absurd hz h0)
      refine lv_iconst (v := 0) hx hb dL_law_1396 (by decide) ?_
      have hI2 := hI
      rw [← FW_m] at hI2
      refine jx_callV (rest := []) (as := [.int a1, .int 0]) hx hb hml hts hown hK hE Dj_m hI2 (cM_bears G ad M a1 0 h.2.1.1) kLM_170 ⟨(Nat.le_of_ble_eq_true rfl), (Nat.le_of_ble_eq_true rfl)⟩ (kk := 4) (ii := 0) rfl rfl rfl hl.1 (Nat.le_of_ble_eq_true rfl) dL_law_1397 ⟨by show cells + 1 + 0 ≤ 601024; omega, by show slots + 6 + 0 ≤ 7293034; omega⟩ (fun v w' H locs hp hI => ?_)
      obtain ⟨rfl, rfl⟩ := hp
      rw [FW_m] at hI
      refine lv_istore (lv' := [(7, .int (M_bears M a1 0).1), (6, .int (cdL EIOB "" E)), (5, .int (nI (4 * t))), (4, .ref bd), (3, .ref bo), (2, .ref (ad 0)), (1, .ref (Z.A 0 0)), (0, .ref b)]) hx hb dL_law_1400 hl (by decide) rfl (fun ls hl => ?_)
      refine lv_aload_n hx hb dL_law_1402 rfl (lv_at hl 5 rfl) ?_
      have hI3 := hI
      rw [← FW_m] at hI3
      refine jx_callV (rest := []) (as := []) hx hb hml hts hown hK hE Dj_m hI3 (cM_thrown G ad (M_bears M a1 0).2) kLM_107 ⟨(Nat.le_of_ble_eq_true rfl), (Nat.le_of_ble_eq_true rfl)⟩ (kk := 4) (ii := 0) rfl rfl rfl hl.1 (Nat.le_of_ble_eq_true rfl) dL_law_1403 ⟨by show cells + 1 + 0 + 0 ≤ 601024; omega, by show slots + 6 + 0 + 0 ≤ 7293034; omega⟩ (fun v w' H locs hp hI => ?_)
      obtain ⟨rfl, rfl⟩ := hp
      rw [FW_m] at hI
      refine lv_iload (rest := [.int (M_thrown (M_bears M a1 0).2)]) hx hb dL_law_1406 (lv_at hl 1 rfl) ?_
      refine lv_icmp_eq (tgt := 1413) hx hb dL_law_1408 (by decide) (fun _ => ?_) (fun h0 => absurd s29 h0)
      refine lv_iload hx hb dL_law_1413 (lv_at hl 1 rfl) ?_
      refine lv_if_ne (tgt := 1430) hx hb dL_law_1415 (by decide) (fun _ => ?_) (fun h0 => absurd h0 cdL_ne)
      refine lv_goto (tgt := 1899) hx hb dL_law_1430 (by decide) ?_
      refine W.widen (k := cells + 5) (n := slots + 802) (by show cells + 1 + 0 + 0 ≤ cells + 5; omega) (by show slots + 6 + 0 + 0 ≤ slots + 802; omega) ?_
      exact K _ _ _ _ _ _ _ _ hR rfl hI (lv_sub hl [2, 3, 4, 5, 6, 7] rfl)
  · have hst := st_bears h ht a1 1
    refine lv_aload_n hx hb dL_law_1349 rfl (lv_at hl 4 rfl) ?_
    refine lv_aload_n hx hb dL_law_1350 rfl (lv_at hl 5 rfl) ?_
    refine lv_iload hx hb dL_law_1351 (lv_at hl 0 rfl) ?_
    refine lv_iconst (v := 1) hx hb dL_law_1353 (by decide) ?_
    refine lv_iadd hx hb dL_law_1354 ?_
    refine va_sld hx hb hX hbl hbA hI.2.2.1 hin1 dL_law_1355 ?_
    rw [← ea1]
    refine lv_aload_n hx hb dL_law_1356 rfl (lv_at hl 5 rfl) ?_
    refine lv_iload hx hb dL_law_1357 (lv_at hl 0 rfl) ?_
    refine lv_iconst (v := 2) hx hb dL_law_1359 (by decide) ?_
    refine lv_iadd hx hb dL_law_1360 ?_
    refine va_sld hx hb hX hbl hbA hI.2.2.1 hin2 dL_law_1361 ?_
    rw [← ea2]
    refine lv_if_eq (tgt := 1369) hx hb dL_law_1362 (by decide) (fun h0 => absurd h0 hz) (fun _ => ?_)
    refine lv_iconst (v := 1) hx hb dL_law_1365 (by decide) ?_
    refine lv_goto (tgt := 1370) hx hb dL_law_1366 (by decide) ?_
    refine lv_aload_n hx hb dL_law_1370 rfl (lv_at hl 2 rfl) ?_
    have hI1 : fI G.2.2.1 A s.heap (jn (jn (xW G.2.2.2 G.2.1 Z S) (oW G.2.2.2 bo f)) (jn (mW G.2.2.2 ad M) (oD G.2.2.2 bd g))) H locs := by rw [FW_w]; exact hI
    refine jx_callH (rest := []) (as := [.ref (Z.A 0 0), .int a1, .int 1, .ref bo]) hx hb hml hts hown hK hE Dj_w hI1 (cL_bearsw G hst0 Z S bo f a1 1 h.1.1) kH_bears ⟨(Nat.le_of_ble_eq_true rfl), (Nat.le_of_ble_eq_true rfl)⟩ hl.1 (Nat.le_of_ble_eq_true rfl) dL_law_1371 ⟨by show cells + 1 ≤ 601024; omega, by show slots + 6 ≤ 7293034; omega⟩ (fun v w' H locs hp hI => ?_)
    rcases hp with ⟨x9, w9, ⟨hT, hx9, rfl⟩, rfl, rfl⟩ | ⟨E9, ⟨hT, hw9⟩, rfl, rfl⟩
    · rcases hst with ⟨sT, s29, sx, hR⟩ | ⟨E, sT, -⟩
      rotate_left
      · exact absurd (hT.symm.trans sT) (fun z => nomatch z)
      cases hx9
      rw [FW_w] at hI
      refine lv_istore (lv' := [(6, .int (0)), (5, .int (nI (4 * t))), (4, .ref bd), (3, .ref bo), (2, .ref (ad 0)), (1, .ref (Z.A 0 0)), (0, .ref b)]) hx hb dL_law_1374 hl (by decide) rfl (fun ls hl => ?_)
      refine lv_aload_n hx hb dL_law_1376 rfl (lv_at hl 4 rfl) ?_
      refine lv_aload_n hx hb dL_law_1377 rfl (lv_at hl 6 rfl) ?_
      refine lv_iload hx hb dL_law_1378 (lv_at hl 1 rfl) ?_
      refine lv_iconst (v := 1) hx hb dL_law_1380 (by decide) ?_
      refine lv_iadd hx hb dL_law_1381 ?_
      refine va_sld hx hb hX hbl hbA hI.2.2.1 hin1 dL_law_1382 ?_
      rw [← ea1]
      refine lv_aload_n hx hb dL_law_1383 rfl (lv_at hl 6 rfl) ?_
      refine lv_iload hx hb dL_law_1384 (lv_at hl 1 rfl) ?_
      refine lv_iconst (v := 2) hx hb dL_law_1386 (by decide) ?_
      refine lv_iadd hx hb dL_law_1387 ?_
      refine va_sld hx hb hX hbl hbA hI.2.2.1 hin2 dL_law_1388 ?_
      rw [← ea2]
      refine lv_if_eq (tgt := 1396) hx hb dL_law_1389 (by decide) (fun h0 => absurd h0 hz) (fun _ => ?_)
      refine lv_iconst (v := 1) hx hb dL_law_1392 (by decide) ?_
      refine lv_goto (tgt := 1397) hx hb dL_law_1393 (by decide) ?_
      have hI2 := hI
      rw [← FW_m] at hI2
      refine jx_callV (rest := []) (as := [.int a1, .int 1]) hx hb hml hts hown hK hE Dj_m hI2 (cM_bears G ad M a1 1 h.2.1.1) kLM_170 ⟨(Nat.le_of_ble_eq_true rfl), (Nat.le_of_ble_eq_true rfl)⟩ (kk := 4) (ii := 0) rfl rfl rfl hl.1 (Nat.le_of_ble_eq_true rfl) dL_law_1397 ⟨by show cells + 1 + 0 ≤ 601024; omega, by show slots + 6 + 0 ≤ 7293034; omega⟩ (fun v w' H locs hp hI => ?_)
      obtain ⟨rfl, rfl⟩ := hp
      rw [FW_m] at hI
      refine lv_istore (lv' := [(7, .int (M_bears M a1 1).1), (6, .int (0)), (5, .int (nI (4 * t))), (4, .ref bd), (3, .ref bo), (2, .ref (ad 0)), (1, .ref (Z.A 0 0)), (0, .ref b)]) hx hb dL_law_1400 hl (by decide) rfl (fun ls hl => ?_)
      refine lv_aload_n hx hb dL_law_1402 rfl (lv_at hl 5 rfl) ?_
      have hI3 := hI
      rw [← FW_m] at hI3
      refine jx_callV (rest := []) (as := []) hx hb hml hts hown hK hE Dj_m hI3 (cM_thrown G ad (M_bears M a1 1).2) kLM_107 ⟨(Nat.le_of_ble_eq_true rfl), (Nat.le_of_ble_eq_true rfl)⟩ (kk := 4) (ii := 0) rfl rfl rfl hl.1 (Nat.le_of_ble_eq_true rfl) dL_law_1403 ⟨by show cells + 1 + 0 + 0 ≤ 601024; omega, by show slots + 6 + 0 + 0 ≤ 7293034; omega⟩ (fun v w' H locs hp hI => ?_)
      obtain ⟨rfl, rfl⟩ := hp
      rw [FW_m] at hI
      refine lv_iload (rest := [.int (M_thrown (M_bears M a1 1).2)]) hx hb dL_law_1406 (lv_at hl 1 rfl) ?_
      refine lv_icmp_eq (tgt := 1413) hx hb dL_law_1408 (by decide) (fun _ => ?_) (fun h0 => absurd s29 h0)
      refine lv_iload hx hb dL_law_1413 (lv_at hl 1 rfl) ?_
      refine lv_if_ne (tgt := 1430) hx hb dL_law_1415 (by decide) (fun h0 => absurd rfl h0) (fun _ => ?_)
      refine lv_aload_n hx hb dL_law_1418 rfl (lv_at hl 4 rfl) ?_
      refine lv_iconst (v := 0) hx hb dL_law_1419 (by decide) ?_
      refine fx_lald (k := 10) (j := 0) (n := 1) hx hb hK hI FW_10 (i := 0) (by unfold vp_in; decide) dL_law_1420 ?_
      refine lv_iload hx hb dL_law_1421 (lv_at hl 0 rfl) ?_
      refine lv_i2l hx hb dL_law_1423 rfl ?_
      refine W.lcmp hx hb dL_law_1424 ?_
      refine lv_if_eq (tgt := 1430) hx hb dL_law_1425 (by decide) (fun _ => ?_) (fun h0 => absurd (cmpI sx) h0)
      refine lv_goto (tgt := 1899) hx hb dL_law_1430 (by decide) ?_
      refine W.widen (k := cells + 5) (n := slots + 802) (by show cells + 1 + 0 + 0 ≤ cells + 5; omega) (by show slots + 6 + 0 + 0 ≤ slots + 802; omega) ?_
      exact K _ _ _ _ _ _ _ _ hR rfl hI (lv_sub hl [2, 3, 4, 5, 6, 7] rfl)
    · rcases hst with ⟨sT, -⟩ | ⟨E, sT, s29, hR⟩
      · exact absurd (hT.symm.trans sT) (fun z => nomatch z)
      have hEE : E = E9 := Option.some.inj (sT.symm.trans hT)
      subst hEE
      rw [FW_w] at hI
      refine lv_istore (lv' := [(6, .int (cdL EIOB "" E)), (5, .int (nI (4 * t))), (4, .ref bd), (3, .ref bo), (2, .ref (ad 0)), (1, .ref (Z.A 0 0)), (0, .ref b)]) hx hb dL_law_1374 hl (by decide) rfl (fun ls hl => ?_)
      refine lv_aload_n hx hb dL_law_1376 rfl (lv_at hl 4 rfl) ?_
      refine lv_aload_n hx hb dL_law_1377 rfl (lv_at hl 6 rfl) ?_
      refine lv_iload hx hb dL_law_1378 (lv_at hl 1 rfl) ?_
      refine lv_iconst (v := 1) hx hb dL_law_1380 (by decide) ?_
      refine lv_iadd hx hb dL_law_1381 ?_
      refine va_sld hx hb hX hbl hbA hI.2.2.1 hin1 dL_law_1382 ?_
      rw [← ea1]
      refine lv_aload_n hx hb dL_law_1383 rfl (lv_at hl 6 rfl) ?_
      refine lv_iload hx hb dL_law_1384 (lv_at hl 1 rfl) ?_
      refine lv_iconst (v := 2) hx hb dL_law_1386 (by decide) ?_
      refine lv_iadd hx hb dL_law_1387 ?_
      refine va_sld hx hb hX hbl hbA hI.2.2.1 hin2 dL_law_1388 ?_
      rw [← ea2]
      refine lv_if_eq (tgt := 1396) hx hb dL_law_1389 (by decide) (fun h0 => absurd h0 hz) (fun _ => ?_)
      refine lv_iconst (v := 1) hx hb dL_law_1392 (by decide) ?_
      refine lv_goto (tgt := 1397) hx hb dL_law_1393 (by decide) ?_
      have hI2 := hI
      rw [← FW_m] at hI2
      refine jx_callV (rest := []) (as := [.int a1, .int 1]) hx hb hml hts hown hK hE Dj_m hI2 (cM_bears G ad M a1 1 h.2.1.1) kLM_170 ⟨(Nat.le_of_ble_eq_true rfl), (Nat.le_of_ble_eq_true rfl)⟩ (kk := 4) (ii := 0) rfl rfl rfl hl.1 (Nat.le_of_ble_eq_true rfl) dL_law_1397 ⟨by show cells + 1 + 0 ≤ 601024; omega, by show slots + 6 + 0 ≤ 7293034; omega⟩ (fun v w' H locs hp hI => ?_)
      obtain ⟨rfl, rfl⟩ := hp
      rw [FW_m] at hI
      refine lv_istore (lv' := [(7, .int (M_bears M a1 1).1), (6, .int (cdL EIOB "" E)), (5, .int (nI (4 * t))), (4, .ref bd), (3, .ref bo), (2, .ref (ad 0)), (1, .ref (Z.A 0 0)), (0, .ref b)]) hx hb dL_law_1400 hl (by decide) rfl (fun ls hl => ?_)
      refine lv_aload_n hx hb dL_law_1402 rfl (lv_at hl 5 rfl) ?_
      have hI3 := hI
      rw [← FW_m] at hI3
      refine jx_callV (rest := []) (as := []) hx hb hml hts hown hK hE Dj_m hI3 (cM_thrown G ad (M_bears M a1 1).2) kLM_107 ⟨(Nat.le_of_ble_eq_true rfl), (Nat.le_of_ble_eq_true rfl)⟩ (kk := 4) (ii := 0) rfl rfl rfl hl.1 (Nat.le_of_ble_eq_true rfl) dL_law_1403 ⟨by show cells + 1 + 0 + 0 ≤ 601024; omega, by show slots + 6 + 0 + 0 ≤ 7293034; omega⟩ (fun v w' H locs hp hI => ?_)
      obtain ⟨rfl, rfl⟩ := hp
      rw [FW_m] at hI
      refine lv_iload (rest := [.int (M_thrown (M_bears M a1 1).2)]) hx hb dL_law_1406 (lv_at hl 1 rfl) ?_
      refine lv_icmp_eq (tgt := 1413) hx hb dL_law_1408 (by decide) (fun _ => ?_) (fun h0 => absurd s29 h0)
      refine lv_iload hx hb dL_law_1413 (lv_at hl 1 rfl) ?_
      refine lv_if_ne (tgt := 1430) hx hb dL_law_1415 (by decide) (fun _ => ?_) (fun h0 => absurd h0 cdL_ne)
      refine lv_goto (tgt := 1899) hx hb dL_law_1430 (by decide) ?_
      refine W.widen (k := cells + 5) (n := slots + 802) (by show cells + 1 + 0 + 0 ≤ cells + 5; omega) (by show slots + 6 + 0 + 0 ≤ slots + 802; omega) ?_
      exact K _ _ _ _ _ _ _ _ hR rfl hI (lv_sub hl [2, 3, 4, 5, 6, 7] rfl)
theorem kLM_173 : CkV "IcehighwayLaw" 173 yX4_ofVehicle cX4_ofVehicle 3 (some .int) 2 := ⟨q1042, q1039, q1040, q1041, q5, by decide +kernel⟩
set_option maxHeartbeats 4000000 in
set_option maxRecDepth 100000 in
theorem law_c19 {p : Program} {e : Env} {s : State} {m : MethodId} {below : List Frame} {meth : Method} {c : Code} {b L : Nat} {xs : Nat → Int32} {Q : State → Prop} {G : GX} {A : Nat → Prop} (C0 : LCtx p s m c b L xs G A) (hL : L ≤ 2048) {t : Nat} (hi : 4 * t + 4 ≤ L) {Z : XZ} {S : XS} {M : MS} {ad : Nat → Nat} {bo bd : Nat} {f : Nat → Int64} {g : Nat → UInt64} {H : Heap} {locs : List Loc} {ls : Array Slot} {cells slots : Nat} (h : RXA Z S M t) (hI : fI G.2.2.1 A s.heap (FW G.2.2.2 G.2.1 Z S ad M bo f bd g) H locs) (hl : lv_has ls 9 [(5, .int (nI (4 * t))), (4, .ref bd), (3, .ref bo), (2, .ref (ad 0)), (1, .ref (Z.A 0 0)), (0, .ref b)]) (hcs : cells + 5 ≤ 601024 ∧ slots + 802 ≤ 7293034) (K : LK p e s m below meth c b Q G A ad bo bd (Z.A 0 0) t cells slots) : W p G.1 e room_1 s m #[Value.ref b] below meth c H locs cells slots Q (F0 m 1433 ls []) := by
  obtain ⟨hx, hb, hml, hts, hown, hK, hE, hX, hbl, hbA, hst0⟩ := C0
  have ht : t < 512 := by omega
  obtain ⟨a1, ea1⟩ : ∃ z, z = xs (nI (4 * t) + 1).toNatClampNeg := ⟨_, rfl⟩
  have hin1 : vp_in (nI (4 * t) + 1) L := sc_in (k := 1) rfl (by omega) hL
  obtain ⟨a2, ea2⟩ : ∃ z, z = xs (nI (4 * t) + 2).toNatClampNeg := ⟨_, rfl⟩
  have hin2 : vp_in (nI (4 * t) + 2) L := sc_in (k := 2) rfl (by omega) hL
  have hst := st_ofVehicle h ht a1 a2
  refine lv_aload_n hx hb dL_law_1433 rfl (lv_at hl 4 rfl) ?_
  refine lv_aload_n hx hb dL_law_1434 rfl (lv_at hl 5 rfl) ?_
  refine lv_iload hx hb dL_law_1435 (lv_at hl 0 rfl) ?_
  refine lv_iconst (v := 1) hx hb dL_law_1437 (by decide) ?_
  refine lv_iadd hx hb dL_law_1438 ?_
  refine va_sld hx hb hX hbl hbA hI.2.2.1 hin1 dL_law_1439 ?_
  rw [← ea1]
  refine lv_aload_n hx hb dL_law_1440 rfl (lv_at hl 5 rfl) ?_
  refine lv_iload hx hb dL_law_1441 (lv_at hl 0 rfl) ?_
  refine lv_iconst (v := 2) hx hb dL_law_1443 (by decide) ?_
  refine lv_iadd hx hb dL_law_1444 ?_
  refine va_sld hx hb hX hbl hbA hI.2.2.1 hin2 dL_law_1445 ?_
  rw [← ea2]
  refine lv_aload_n hx hb dL_law_1446 rfl (lv_at hl 2 rfl) ?_
  have hI1 : fI G.2.2.1 A s.heap (jn (jn (xW G.2.2.2 G.2.1 Z S) (oW G.2.2.2 bo f)) (jn (mW G.2.2.2 ad M) (oD G.2.2.2 bd g))) H locs := by rw [FW_w]; exact hI
  refine jx_callH (rest := []) (as := [.ref (Z.A 0 0), .int a1, .int a2, .ref bo]) hx hb hml hts hown hK hE Dj_w hI1 (cL_ofVehiclew G hst0 Z S bo f a1 a2 h.1.1 h.1.2.1) kH_ofVehicle ⟨(Nat.le_of_ble_eq_true rfl), (Nat.le_of_ble_eq_true rfl)⟩ hl.1 (Nat.le_of_ble_eq_true rfl) dL_law_1447 ⟨by show cells + 2 ≤ 601024; omega, by show slots + 12 ≤ 7293034; omega⟩ (fun v w' H locs hp hI => ?_)
  rcases hp with ⟨x9, w9, ⟨hT, hx9, rfl⟩, rfl, rfl⟩ | ⟨E9, ⟨hT, hw9⟩, rfl, rfl⟩
  · rcases hst with ⟨sT, s29, sx, hR⟩ | ⟨E, sT, -⟩
    rotate_left
    · exact absurd (hT.symm.trans sT) (fun z => nomatch z)
    cases hx9
    rw [FW_w] at hI
    refine lv_istore (lv' := [(6, .int (0)), (5, .int (nI (4 * t))), (4, .ref bd), (3, .ref bo), (2, .ref (ad 0)), (1, .ref (Z.A 0 0)), (0, .ref b)]) hx hb dL_law_1450 hl (by decide) rfl (fun ls hl => ?_)
    refine lv_aload_n hx hb dL_law_1452 rfl (lv_at hl 4 rfl) ?_
    refine lv_aload_n hx hb dL_law_1453 rfl (lv_at hl 6 rfl) ?_
    refine lv_iload hx hb dL_law_1454 (lv_at hl 1 rfl) ?_
    refine lv_iconst (v := 1) hx hb dL_law_1456 (by decide) ?_
    refine lv_iadd hx hb dL_law_1457 ?_
    refine va_sld hx hb hX hbl hbA hI.2.2.1 hin1 dL_law_1458 ?_
    rw [← ea1]
    refine lv_aload_n hx hb dL_law_1459 rfl (lv_at hl 6 rfl) ?_
    refine lv_iload hx hb dL_law_1460 (lv_at hl 1 rfl) ?_
    refine lv_iconst (v := 2) hx hb dL_law_1462 (by decide) ?_
    refine lv_iadd hx hb dL_law_1463 ?_
    refine va_sld hx hb hX hbl hbA hI.2.2.1 hin2 dL_law_1464 ?_
    rw [← ea2]
    have hI2 := hI
    rw [← FW_m] at hI2
    refine jx_callV (rest := []) (as := [.int a1, .int a2]) hx hb hml hts hown hK hE Dj_m hI2 (cM_ofVehicle G ad M a1 a2 h.2.1.1) kLM_173 ⟨(Nat.le_of_ble_eq_true rfl), (Nat.le_of_ble_eq_true rfl)⟩ (kk := 4) (ii := 0) rfl rfl rfl hl.1 (Nat.le_of_ble_eq_true rfl) dL_law_1465 ⟨by show cells + 2 + 0 ≤ 601024; omega, by show slots + 12 + 0 ≤ 7293034; omega⟩ (fun v w' H locs hp hI => ?_)
    obtain ⟨rfl, rfl⟩ := hp
    rw [FW_m] at hI
    refine lv_istore (lv' := [(7, .int (M_ofVehicle M a1 a2).1), (6, .int (0)), (5, .int (nI (4 * t))), (4, .ref bd), (3, .ref bo), (2, .ref (ad 0)), (1, .ref (Z.A 0 0)), (0, .ref b)]) hx hb dL_law_1468 hl (by decide) rfl (fun ls hl => ?_)
    refine lv_aload_n hx hb dL_law_1470 rfl (lv_at hl 5 rfl) ?_
    have hI3 := hI
    rw [← FW_m] at hI3
    refine jx_callV (rest := []) (as := []) hx hb hml hts hown hK hE Dj_m hI3 (cM_thrown G ad (M_ofVehicle M a1 a2).2) kLM_107 ⟨(Nat.le_of_ble_eq_true rfl), (Nat.le_of_ble_eq_true rfl)⟩ (kk := 4) (ii := 0) rfl rfl rfl hl.1 (Nat.le_of_ble_eq_true rfl) dL_law_1471 ⟨by show cells + 2 + 0 + 0 ≤ 601024; omega, by show slots + 12 + 0 + 0 ≤ 7293034; omega⟩ (fun v w' H locs hp hI => ?_)
    obtain ⟨rfl, rfl⟩ := hp
    rw [FW_m] at hI
    refine lv_iload (rest := [.int (M_thrown (M_ofVehicle M a1 a2).2)]) hx hb dL_law_1474 (lv_at hl 1 rfl) ?_
    refine lv_icmp_eq (tgt := 1481) hx hb dL_law_1476 (by decide) (fun _ => ?_) (fun h0 => absurd s29 h0)
    refine lv_iload hx hb dL_law_1481 (lv_at hl 1 rfl) ?_
    refine lv_if_ne (tgt := 1498) hx hb dL_law_1483 (by decide) (fun h0 => absurd rfl h0) (fun _ => ?_)
    refine lv_aload_n hx hb dL_law_1486 rfl (lv_at hl 4 rfl) ?_
    refine lv_iconst (v := 0) hx hb dL_law_1487 (by decide) ?_
    refine fx_lald (k := 10) (j := 0) (n := 1) hx hb hK hI FW_10 (i := 0) (by unfold vp_in; decide) dL_law_1488 ?_
    refine lv_iload hx hb dL_law_1489 (lv_at hl 0 rfl) ?_
    refine lv_i2l hx hb dL_law_1491 rfl ?_
    refine W.lcmp hx hb dL_law_1492 ?_
    refine lv_if_eq (tgt := 1498) hx hb dL_law_1493 (by decide) (fun _ => ?_) (fun h0 => absurd (cmpI sx) h0)
    refine lv_goto (tgt := 1899) hx hb dL_law_1498 (by decide) ?_
    refine W.widen (k := cells + 5) (n := slots + 802) (by show cells + 2 + 0 + 0 ≤ cells + 5; omega) (by show slots + 12 + 0 + 0 ≤ slots + 802; omega) ?_
    exact K _ _ _ _ _ _ _ _ hR rfl hI (lv_sub hl [2, 3, 4, 5, 6, 7] rfl)
  · rcases hst with ⟨sT, -⟩ | ⟨E, sT, s29, hR⟩
    · exact absurd (hT.symm.trans sT) (fun z => nomatch z)
    have hEE : E = E9 := Option.some.inj (sT.symm.trans hT)
    subst hEE
    rw [FW_w] at hI
    refine lv_istore (lv' := [(6, .int (cdL EIOB EIAE E)), (5, .int (nI (4 * t))), (4, .ref bd), (3, .ref bo), (2, .ref (ad 0)), (1, .ref (Z.A 0 0)), (0, .ref b)]) hx hb dL_law_1450 hl (by decide) rfl (fun ls hl => ?_)
    refine lv_aload_n hx hb dL_law_1452 rfl (lv_at hl 4 rfl) ?_
    refine lv_aload_n hx hb dL_law_1453 rfl (lv_at hl 6 rfl) ?_
    refine lv_iload hx hb dL_law_1454 (lv_at hl 1 rfl) ?_
    refine lv_iconst (v := 1) hx hb dL_law_1456 (by decide) ?_
    refine lv_iadd hx hb dL_law_1457 ?_
    refine va_sld hx hb hX hbl hbA hI.2.2.1 hin1 dL_law_1458 ?_
    rw [← ea1]
    refine lv_aload_n hx hb dL_law_1459 rfl (lv_at hl 6 rfl) ?_
    refine lv_iload hx hb dL_law_1460 (lv_at hl 1 rfl) ?_
    refine lv_iconst (v := 2) hx hb dL_law_1462 (by decide) ?_
    refine lv_iadd hx hb dL_law_1463 ?_
    refine va_sld hx hb hX hbl hbA hI.2.2.1 hin2 dL_law_1464 ?_
    rw [← ea2]
    have hI2 := hI
    rw [← FW_m] at hI2
    refine jx_callV (rest := []) (as := [.int a1, .int a2]) hx hb hml hts hown hK hE Dj_m hI2 (cM_ofVehicle G ad M a1 a2 h.2.1.1) kLM_173 ⟨(Nat.le_of_ble_eq_true rfl), (Nat.le_of_ble_eq_true rfl)⟩ (kk := 4) (ii := 0) rfl rfl rfl hl.1 (Nat.le_of_ble_eq_true rfl) dL_law_1465 ⟨by show cells + 2 + 0 ≤ 601024; omega, by show slots + 12 + 0 ≤ 7293034; omega⟩ (fun v w' H locs hp hI => ?_)
    obtain ⟨rfl, rfl⟩ := hp
    rw [FW_m] at hI
    refine lv_istore (lv' := [(7, .int (M_ofVehicle M a1 a2).1), (6, .int (cdL EIOB EIAE E)), (5, .int (nI (4 * t))), (4, .ref bd), (3, .ref bo), (2, .ref (ad 0)), (1, .ref (Z.A 0 0)), (0, .ref b)]) hx hb dL_law_1468 hl (by decide) rfl (fun ls hl => ?_)
    refine lv_aload_n hx hb dL_law_1470 rfl (lv_at hl 5 rfl) ?_
    have hI3 := hI
    rw [← FW_m] at hI3
    refine jx_callV (rest := []) (as := []) hx hb hml hts hown hK hE Dj_m hI3 (cM_thrown G ad (M_ofVehicle M a1 a2).2) kLM_107 ⟨(Nat.le_of_ble_eq_true rfl), (Nat.le_of_ble_eq_true rfl)⟩ (kk := 4) (ii := 0) rfl rfl rfl hl.1 (Nat.le_of_ble_eq_true rfl) dL_law_1471 ⟨by show cells + 2 + 0 + 0 ≤ 601024; omega, by show slots + 12 + 0 + 0 ≤ 7293034; omega⟩ (fun v w' H locs hp hI => ?_)
    obtain ⟨rfl, rfl⟩ := hp
    rw [FW_m] at hI
    refine lv_iload (rest := [.int (M_thrown (M_ofVehicle M a1 a2).2)]) hx hb dL_law_1474 (lv_at hl 1 rfl) ?_
    refine lv_icmp_eq (tgt := 1481) hx hb dL_law_1476 (by decide) (fun _ => ?_) (fun h0 => absurd s29 h0)
    refine lv_iload hx hb dL_law_1481 (lv_at hl 1 rfl) ?_
    refine lv_if_ne (tgt := 1498) hx hb dL_law_1483 (by decide) (fun _ => ?_) (fun h0 => absurd h0 cdL_ne)
    refine lv_goto (tgt := 1899) hx hb dL_law_1498 (by decide) ?_
    refine W.widen (k := cells + 5) (n := slots + 802) (by show cells + 2 + 0 + 0 ≤ cells + 5; omega) (by show slots + 12 + 0 + 0 ≤ slots + 802; omega) ?_
    exact K _ _ _ _ _ _ _ _ hR rfl hI (lv_sub hl [2, 3, 4, 5, 6, 7] rfl)
theorem kLM_176 : CkV "IcehighwayLaw" 176 yX4_why cX4_why 2 (some .int) 1 := ⟨q1046, q1043, q1044, q1045, q5, by decide +kernel⟩
set_option maxHeartbeats 4000000 in
set_option maxRecDepth 100000 in
theorem law_c20 {p : Program} {e : Env} {s : State} {m : MethodId} {below : List Frame} {meth : Method} {c : Code} {b L : Nat} {xs : Nat → Int32} {Q : State → Prop} {G : GX} {A : Nat → Prop} (C0 : LCtx p s m c b L xs G A) (hL : L ≤ 2048) {t : Nat} (hi : 4 * t + 4 ≤ L) {Z : XZ} {S : XS} {M : MS} {ad : Nat → Nat} {bo bd : Nat} {f : Nat → Int64} {g : Nat → UInt64} {H : Heap} {locs : List Loc} {ls : Array Slot} {cells slots : Nat} (h : RXA Z S M t) (hI : fI G.2.2.1 A s.heap (FW G.2.2.2 G.2.1 Z S ad M bo f bd g) H locs) (hl : lv_has ls 9 [(5, .int (nI (4 * t))), (4, .ref bd), (3, .ref bo), (2, .ref (ad 0)), (1, .ref (Z.A 0 0)), (0, .ref b)]) (hcs : cells + 5 ≤ 601024 ∧ slots + 802 ≤ 7293034) (K : LK p e s m below meth c b Q G A ad bo bd (Z.A 0 0) t cells slots) : W p G.1 e room_1 s m #[Value.ref b] below meth c H locs cells slots Q (F0 m 1501 ls []) := by
  obtain ⟨hx, hb, hml, hts, hown, hK, hE, hX, hbl, hbA, hst0⟩ := C0
  have ht : t < 512 := by omega
  obtain ⟨a1, ea1⟩ : ∃ z, z = xs (nI (4 * t) + 1).toNatClampNeg := ⟨_, rfl⟩
  have hin1 : vp_in (nI (4 * t) + 1) L := sc_in (k := 1) rfl (by omega) hL
  have hst := st_why h ht a1
  refine lv_aload_n hx hb dL_law_1501 rfl (lv_at hl 4 rfl) ?_
  refine lv_aload_n hx hb dL_law_1502 rfl (lv_at hl 5 rfl) ?_
  refine lv_iload hx hb dL_law_1503 (lv_at hl 0 rfl) ?_
  refine lv_iconst (v := 1) hx hb dL_law_1505 (by decide) ?_
  refine lv_iadd hx hb dL_law_1506 ?_
  refine va_sld hx hb hX hbl hbA hI.2.2.1 hin1 dL_law_1507 ?_
  rw [← ea1]
  refine lv_aload_n hx hb dL_law_1508 rfl (lv_at hl 2 rfl) ?_
  have hI1 : fI G.2.2.1 A s.heap (jn (jn (xW G.2.2.2 G.2.1 Z S) (oW G.2.2.2 bo f)) (jn (mW G.2.2.2 ad M) (oD G.2.2.2 bd g))) H locs := by rw [FW_w]; exact hI
  refine jx_callH (rest := []) (as := [.ref (Z.A 0 0), .int a1, .ref bo]) hx hb hml hts hown hK hE Dj_w hI1 (cL_whyw G hst0 Z S bo f a1 h.1.1 h.1.2.1) kH_why ⟨(Nat.le_of_ble_eq_true rfl), (Nat.le_of_ble_eq_true rfl)⟩ hl.1 (Nat.le_of_ble_eq_true rfl) dL_law_1509 ⟨by show cells + 1 ≤ 601024; omega, by show slots + 6 ≤ 7293034; omega⟩ (fun v w' H locs hp hI => ?_)
  rcases hp with ⟨x9, w9, ⟨hT, hx9, rfl⟩, rfl, rfl⟩ | ⟨E9, ⟨hT, hw9⟩, rfl, rfl⟩
  · rcases hst with ⟨sT, s29, sx, hR⟩ | ⟨E, sT, -⟩
    rotate_left
    · exact absurd (hT.symm.trans sT) (fun z => nomatch z)
    cases hx9
    rw [FW_w] at hI
    refine lv_istore (lv' := [(6, .int (0)), (5, .int (nI (4 * t))), (4, .ref bd), (3, .ref bo), (2, .ref (ad 0)), (1, .ref (Z.A 0 0)), (0, .ref b)]) hx hb dL_law_1512 hl (by decide) rfl (fun ls hl => ?_)
    refine lv_aload_n hx hb dL_law_1514 rfl (lv_at hl 4 rfl) ?_
    refine lv_aload_n hx hb dL_law_1515 rfl (lv_at hl 6 rfl) ?_
    refine lv_iload hx hb dL_law_1516 (lv_at hl 1 rfl) ?_
    refine lv_iconst (v := 1) hx hb dL_law_1518 (by decide) ?_
    refine lv_iadd hx hb dL_law_1519 ?_
    refine va_sld hx hb hX hbl hbA hI.2.2.1 hin1 dL_law_1520 ?_
    rw [← ea1]
    have hI2 := hI
    rw [← FW_m] at hI2
    refine jx_callV (rest := []) (as := [.int a1]) hx hb hml hts hown hK hE Dj_m hI2 (cM_why G ad M a1 h.2.1) kLM_176 ⟨(Nat.le_of_ble_eq_true rfl), (Nat.le_of_ble_eq_true rfl)⟩ (kk := 4) (ii := 0) rfl rfl rfl hl.1 (Nat.le_of_ble_eq_true rfl) dL_law_1521 ⟨by show cells + 1 + 0 ≤ 601024; omega, by show slots + 6 + 0 ≤ 7293034; omega⟩ (fun v w' H locs hp hI => ?_)
    obtain ⟨rfl, rfl⟩ := hp
    rw [FW_m] at hI
    refine lv_istore (lv' := [(7, .int (M_why M a1).1), (6, .int (0)), (5, .int (nI (4 * t))), (4, .ref bd), (3, .ref bo), (2, .ref (ad 0)), (1, .ref (Z.A 0 0)), (0, .ref b)]) hx hb dL_law_1524 hl (by decide) rfl (fun ls hl => ?_)
    refine lv_aload_n hx hb dL_law_1526 rfl (lv_at hl 5 rfl) ?_
    have hI3 := hI
    rw [← FW_m] at hI3
    refine jx_callV (rest := []) (as := []) hx hb hml hts hown hK hE Dj_m hI3 (cM_thrown G ad (M_why M a1).2) kLM_107 ⟨(Nat.le_of_ble_eq_true rfl), (Nat.le_of_ble_eq_true rfl)⟩ (kk := 4) (ii := 0) rfl rfl rfl hl.1 (Nat.le_of_ble_eq_true rfl) dL_law_1527 ⟨by show cells + 1 + 0 + 0 ≤ 601024; omega, by show slots + 6 + 0 + 0 ≤ 7293034; omega⟩ (fun v w' H locs hp hI => ?_)
    obtain ⟨rfl, rfl⟩ := hp
    rw [FW_m] at hI
    refine lv_iload (rest := [.int (M_thrown (M_why M a1).2)]) hx hb dL_law_1530 (lv_at hl 1 rfl) ?_
    refine lv_icmp_eq (tgt := 1537) hx hb dL_law_1532 (by decide) (fun _ => ?_) (fun h0 => absurd s29 h0)
    refine lv_iload hx hb dL_law_1537 (lv_at hl 1 rfl) ?_
    refine lv_if_ne (tgt := 1554) hx hb dL_law_1539 (by decide) (fun h0 => absurd rfl h0) (fun _ => ?_)
    refine lv_aload_n hx hb dL_law_1542 rfl (lv_at hl 4 rfl) ?_
    refine lv_iconst (v := 0) hx hb dL_law_1543 (by decide) ?_
    refine fx_lald (k := 10) (j := 0) (n := 1) hx hb hK hI FW_10 (i := 0) (by unfold vp_in; decide) dL_law_1544 ?_
    refine lv_iload hx hb dL_law_1545 (lv_at hl 0 rfl) ?_
    refine lv_i2l hx hb dL_law_1547 rfl ?_
    refine W.lcmp hx hb dL_law_1548 ?_
    refine lv_if_eq (tgt := 1554) hx hb dL_law_1549 (by decide) (fun _ => ?_) (fun h0 => absurd (cmpI sx) h0)
    refine lv_goto (tgt := 1899) hx hb dL_law_1554 (by decide) ?_
    refine W.widen (k := cells + 5) (n := slots + 802) (by show cells + 1 + 0 + 0 ≤ cells + 5; omega) (by show slots + 6 + 0 + 0 ≤ slots + 802; omega) ?_
    exact K _ _ _ _ _ _ _ _ hR rfl hI (lv_sub hl [2, 3, 4, 5, 6, 7] rfl)
  · rcases hst with ⟨sT, -⟩ | ⟨E, sT, s29, hR⟩
    · exact absurd (hT.symm.trans sT) (fun z => nomatch z)
    have hEE : E = E9 := Option.some.inj (sT.symm.trans hT)
    subst hEE
    rw [FW_w] at hI
    refine lv_istore (lv' := [(6, .int (cdL EIOB "" E)), (5, .int (nI (4 * t))), (4, .ref bd), (3, .ref bo), (2, .ref (ad 0)), (1, .ref (Z.A 0 0)), (0, .ref b)]) hx hb dL_law_1512 hl (by decide) rfl (fun ls hl => ?_)
    refine lv_aload_n hx hb dL_law_1514 rfl (lv_at hl 4 rfl) ?_
    refine lv_aload_n hx hb dL_law_1515 rfl (lv_at hl 6 rfl) ?_
    refine lv_iload hx hb dL_law_1516 (lv_at hl 1 rfl) ?_
    refine lv_iconst (v := 1) hx hb dL_law_1518 (by decide) ?_
    refine lv_iadd hx hb dL_law_1519 ?_
    refine va_sld hx hb hX hbl hbA hI.2.2.1 hin1 dL_law_1520 ?_
    rw [← ea1]
    have hI2 := hI
    rw [← FW_m] at hI2
    refine jx_callV (rest := []) (as := [.int a1]) hx hb hml hts hown hK hE Dj_m hI2 (cM_why G ad M a1 h.2.1) kLM_176 ⟨(Nat.le_of_ble_eq_true rfl), (Nat.le_of_ble_eq_true rfl)⟩ (kk := 4) (ii := 0) rfl rfl rfl hl.1 (Nat.le_of_ble_eq_true rfl) dL_law_1521 ⟨by show cells + 1 + 0 ≤ 601024; omega, by show slots + 6 + 0 ≤ 7293034; omega⟩ (fun v w' H locs hp hI => ?_)
    obtain ⟨rfl, rfl⟩ := hp
    rw [FW_m] at hI
    refine lv_istore (lv' := [(7, .int (M_why M a1).1), (6, .int (cdL EIOB "" E)), (5, .int (nI (4 * t))), (4, .ref bd), (3, .ref bo), (2, .ref (ad 0)), (1, .ref (Z.A 0 0)), (0, .ref b)]) hx hb dL_law_1524 hl (by decide) rfl (fun ls hl => ?_)
    refine lv_aload_n hx hb dL_law_1526 rfl (lv_at hl 5 rfl) ?_
    have hI3 := hI
    rw [← FW_m] at hI3
    refine jx_callV (rest := []) (as := []) hx hb hml hts hown hK hE Dj_m hI3 (cM_thrown G ad (M_why M a1).2) kLM_107 ⟨(Nat.le_of_ble_eq_true rfl), (Nat.le_of_ble_eq_true rfl)⟩ (kk := 4) (ii := 0) rfl rfl rfl hl.1 (Nat.le_of_ble_eq_true rfl) dL_law_1527 ⟨by show cells + 1 + 0 + 0 ≤ 601024; omega, by show slots + 6 + 0 + 0 ≤ 7293034; omega⟩ (fun v w' H locs hp hI => ?_)
    obtain ⟨rfl, rfl⟩ := hp
    rw [FW_m] at hI
    refine lv_iload (rest := [.int (M_thrown (M_why M a1).2)]) hx hb dL_law_1530 (lv_at hl 1 rfl) ?_
    refine lv_icmp_eq (tgt := 1537) hx hb dL_law_1532 (by decide) (fun _ => ?_) (fun h0 => absurd s29 h0)
    refine lv_iload hx hb dL_law_1537 (lv_at hl 1 rfl) ?_
    refine lv_if_ne (tgt := 1554) hx hb dL_law_1539 (by decide) (fun _ => ?_) (fun h0 => absurd h0 cdL_ne)
    refine lv_goto (tgt := 1899) hx hb dL_law_1554 (by decide) ?_
    refine W.widen (k := cells + 5) (n := slots + 802) (by show cells + 1 + 0 + 0 ≤ cells + 5; omega) (by show slots + 6 + 0 + 0 ≤ slots + 802; omega) ?_
    exact K _ _ _ _ _ _ _ _ hR rfl hI (lv_sub hl [2, 3, 4, 5, 6, 7] rfl)
theorem kLM_179 : CkV "IcehighwayLaw" 179 yX4_speed cX4_speed 3 (some .int) 2 := ⟨q1050, q1047, q1048, q1049, q5, by decide +kernel⟩
set_option maxHeartbeats 4000000 in
set_option maxRecDepth 100000 in
theorem law_c21 {p : Program} {e : Env} {s : State} {m : MethodId} {below : List Frame} {meth : Method} {c : Code} {b L : Nat} {xs : Nat → Int32} {Q : State → Prop} {G : GX} {A : Nat → Prop} (C0 : LCtx p s m c b L xs G A) (hL : L ≤ 2048) {t : Nat} (hi : 4 * t + 4 ≤ L) {Z : XZ} {S : XS} {M : MS} {ad : Nat → Nat} {bo bd : Nat} {f : Nat → Int64} {g : Nat → UInt64} {H : Heap} {locs : List Loc} {ls : Array Slot} {cells slots : Nat} (h : RXA Z S M t) (hI : fI G.2.2.1 A s.heap (FW G.2.2.2 G.2.1 Z S ad M bo f bd g) H locs) (hl : lv_has ls 9 [(5, .int (nI (4 * t))), (4, .ref bd), (3, .ref bo), (2, .ref (ad 0)), (1, .ref (Z.A 0 0)), (0, .ref b)]) (hcs : cells + 5 ≤ 601024 ∧ slots + 802 ≤ 7293034) (K : LK p e s m below meth c b Q G A ad bo bd (Z.A 0 0) t cells slots) : W p G.1 e room_1 s m #[Value.ref b] below meth c H locs cells slots Q (F0 m 1557 ls []) := by
  obtain ⟨hx, hb, hml, hts, hown, hK, hE, hX, hbl, hbA, hst0⟩ := C0
  have ht : t < 512 := by omega
  obtain ⟨a1, ea1⟩ : ∃ z, z = xs (nI (4 * t) + 1).toNatClampNeg := ⟨_, rfl⟩
  have hin1 : vp_in (nI (4 * t) + 1) L := sc_in (k := 1) rfl (by omega) hL
  obtain ⟨a2, ea2⟩ : ∃ z, z = xs (nI (4 * t) + 2).toNatClampNeg := ⟨_, rfl⟩
  have hin2 : vp_in (nI (4 * t) + 2) L := sc_in (k := 2) rfl (by omega) hL
  have hst := st_speed h ht a1 a2
  refine lv_aload_n hx hb dL_law_1557 rfl (lv_at hl 4 rfl) ?_
  refine lv_aload_n hx hb dL_law_1558 rfl (lv_at hl 5 rfl) ?_
  refine lv_iload hx hb dL_law_1559 (lv_at hl 0 rfl) ?_
  refine lv_iconst (v := 1) hx hb dL_law_1561 (by decide) ?_
  refine lv_iadd hx hb dL_law_1562 ?_
  refine va_sld hx hb hX hbl hbA hI.2.2.1 hin1 dL_law_1563 ?_
  rw [← ea1]
  refine lv_aload_n hx hb dL_law_1564 rfl (lv_at hl 5 rfl) ?_
  refine lv_iload hx hb dL_law_1565 (lv_at hl 0 rfl) ?_
  refine lv_iconst (v := 2) hx hb dL_law_1567 (by decide) ?_
  refine lv_iadd hx hb dL_law_1568 ?_
  refine va_sld hx hb hX hbl hbA hI.2.2.1 hin2 dL_law_1569 ?_
  rw [← ea2]
  refine lv_aload_n hx hb dL_law_1570 rfl (lv_at hl 2 rfl) ?_
  have hI1 : fI G.2.2.1 A s.heap (jn (jn (xW G.2.2.2 G.2.1 Z S) (oW G.2.2.2 bo f)) (jn (mW G.2.2.2 ad M) (oD G.2.2.2 bd g))) H locs := by rw [FW_w]; exact hI
  refine jx_callH (rest := []) (as := [.ref (Z.A 0 0), .int a1, .int a2, .ref bo]) hx hb hml hts hown hK hE Dj_w hI1 (cL_speedw G hst0 Z S bo f a1 a2 h.1.1) kH_speed ⟨(Nat.le_of_ble_eq_true rfl), (Nat.le_of_ble_eq_true rfl)⟩ hl.1 (Nat.le_of_ble_eq_true rfl) dL_law_1571 ⟨by show cells + 2 ≤ 601024; omega, by show slots + 12 ≤ 7293034; omega⟩ (fun v w' H locs hp hI => ?_)
  rcases hp with ⟨x9, w9, ⟨hT, hx9, rfl⟩, rfl, rfl⟩ | ⟨E9, ⟨hT, hw9⟩, rfl, rfl⟩
  · rcases hst with ⟨sT, s29, sx, hR⟩ | ⟨E, sT, -⟩
    rotate_left
    · exact absurd (hT.symm.trans sT) (fun z => nomatch z)
    cases hx9
    rw [FW_w] at hI
    refine lv_istore (lv' := [(6, .int (0)), (5, .int (nI (4 * t))), (4, .ref bd), (3, .ref bo), (2, .ref (ad 0)), (1, .ref (Z.A 0 0)), (0, .ref b)]) hx hb dL_law_1574 hl (by decide) rfl (fun ls hl => ?_)
    refine lv_aload_n hx hb dL_law_1576 rfl (lv_at hl 4 rfl) ?_
    refine lv_aload_n hx hb dL_law_1577 rfl (lv_at hl 6 rfl) ?_
    refine lv_iload hx hb dL_law_1578 (lv_at hl 1 rfl) ?_
    refine lv_iconst (v := 1) hx hb dL_law_1580 (by decide) ?_
    refine lv_iadd hx hb dL_law_1581 ?_
    refine va_sld hx hb hX hbl hbA hI.2.2.1 hin1 dL_law_1582 ?_
    rw [← ea1]
    refine lv_aload_n hx hb dL_law_1583 rfl (lv_at hl 6 rfl) ?_
    refine lv_iload hx hb dL_law_1584 (lv_at hl 1 rfl) ?_
    refine lv_iconst (v := 2) hx hb dL_law_1586 (by decide) ?_
    refine lv_iadd hx hb dL_law_1587 ?_
    refine va_sld hx hb hX hbl hbA hI.2.2.1 hin2 dL_law_1588 ?_
    rw [← ea2]
    have hI2 := hI
    rw [← FW_m] at hI2
    refine jx_callV (rest := []) (as := [.int a1, .int a2]) hx hb hml hts hown hK hE Dj_m hI2 (cM_speed G ad M a1 a2 h.2.1) kLM_179 ⟨(Nat.le_of_ble_eq_true rfl), (Nat.le_of_ble_eq_true rfl)⟩ (kk := 4) (ii := 0) rfl rfl rfl hl.1 (Nat.le_of_ble_eq_true rfl) dL_law_1589 ⟨by show cells + 2 + 0 ≤ 601024; omega, by show slots + 12 + 0 ≤ 7293034; omega⟩ (fun v w' H locs hp hI => ?_)
    obtain ⟨rfl, rfl⟩ := hp
    rw [FW_m] at hI
    refine lv_istore (lv' := [(7, .int (M_speed M a1 a2).1), (6, .int (0)), (5, .int (nI (4 * t))), (4, .ref bd), (3, .ref bo), (2, .ref (ad 0)), (1, .ref (Z.A 0 0)), (0, .ref b)]) hx hb dL_law_1592 hl (by decide) rfl (fun ls hl => ?_)
    refine lv_aload_n hx hb dL_law_1594 rfl (lv_at hl 5 rfl) ?_
    have hI3 := hI
    rw [← FW_m] at hI3
    refine jx_callV (rest := []) (as := []) hx hb hml hts hown hK hE Dj_m hI3 (cM_thrown G ad (M_speed M a1 a2).2) kLM_107 ⟨(Nat.le_of_ble_eq_true rfl), (Nat.le_of_ble_eq_true rfl)⟩ (kk := 4) (ii := 0) rfl rfl rfl hl.1 (Nat.le_of_ble_eq_true rfl) dL_law_1595 ⟨by show cells + 2 + 0 + 0 ≤ 601024; omega, by show slots + 12 + 0 + 0 ≤ 7293034; omega⟩ (fun v w' H locs hp hI => ?_)
    obtain ⟨rfl, rfl⟩ := hp
    rw [FW_m] at hI
    refine lv_iload (rest := [.int (M_thrown (M_speed M a1 a2).2)]) hx hb dL_law_1598 (lv_at hl 1 rfl) ?_
    refine lv_icmp_eq (tgt := 1605) hx hb dL_law_1600 (by decide) (fun _ => ?_) (fun h0 => absurd s29 h0)
    refine lv_iload hx hb dL_law_1605 (lv_at hl 1 rfl) ?_
    refine lv_if_ne (tgt := 1622) hx hb dL_law_1607 (by decide) (fun h0 => absurd rfl h0) (fun _ => ?_)
    refine lv_aload_n hx hb dL_law_1610 rfl (lv_at hl 4 rfl) ?_
    refine lv_iconst (v := 0) hx hb dL_law_1611 (by decide) ?_
    refine fx_lald (k := 10) (j := 0) (n := 1) hx hb hK hI FW_10 (i := 0) (by unfold vp_in; decide) dL_law_1612 ?_
    refine lv_iload hx hb dL_law_1613 (lv_at hl 0 rfl) ?_
    refine lv_i2l hx hb dL_law_1615 rfl ?_
    refine W.lcmp hx hb dL_law_1616 ?_
    refine lv_if_eq (tgt := 1622) hx hb dL_law_1617 (by decide) (fun _ => ?_) (fun h0 => absurd (cmpI sx) h0)
    refine lv_goto (tgt := 1899) hx hb dL_law_1622 (by decide) ?_
    refine W.widen (k := cells + 5) (n := slots + 802) (by show cells + 2 + 0 + 0 ≤ cells + 5; omega) (by show slots + 12 + 0 + 0 ≤ slots + 802; omega) ?_
    exact K _ _ _ _ _ _ _ _ hR rfl hI (lv_sub hl [2, 3, 4, 5, 6, 7] rfl)
  · rcases hst with ⟨sT, -⟩ | ⟨E, sT, s29, hR⟩
    · exact absurd (hT.symm.trans sT) (fun z => nomatch z)
    have hEE : E = E9 := Option.some.inj (sT.symm.trans hT)
    subst hEE
    rw [FW_w] at hI
    refine lv_istore (lv' := [(6, .int (cdL EIOB "" E)), (5, .int (nI (4 * t))), (4, .ref bd), (3, .ref bo), (2, .ref (ad 0)), (1, .ref (Z.A 0 0)), (0, .ref b)]) hx hb dL_law_1574 hl (by decide) rfl (fun ls hl => ?_)
    refine lv_aload_n hx hb dL_law_1576 rfl (lv_at hl 4 rfl) ?_
    refine lv_aload_n hx hb dL_law_1577 rfl (lv_at hl 6 rfl) ?_
    refine lv_iload hx hb dL_law_1578 (lv_at hl 1 rfl) ?_
    refine lv_iconst (v := 1) hx hb dL_law_1580 (by decide) ?_
    refine lv_iadd hx hb dL_law_1581 ?_
    refine va_sld hx hb hX hbl hbA hI.2.2.1 hin1 dL_law_1582 ?_
    rw [← ea1]
    refine lv_aload_n hx hb dL_law_1583 rfl (lv_at hl 6 rfl) ?_
    refine lv_iload hx hb dL_law_1584 (lv_at hl 1 rfl) ?_
    refine lv_iconst (v := 2) hx hb dL_law_1586 (by decide) ?_
    refine lv_iadd hx hb dL_law_1587 ?_
    refine va_sld hx hb hX hbl hbA hI.2.2.1 hin2 dL_law_1588 ?_
    rw [← ea2]
    have hI2 := hI
    rw [← FW_m] at hI2
    refine jx_callV (rest := []) (as := [.int a1, .int a2]) hx hb hml hts hown hK hE Dj_m hI2 (cM_speed G ad M a1 a2 h.2.1) kLM_179 ⟨(Nat.le_of_ble_eq_true rfl), (Nat.le_of_ble_eq_true rfl)⟩ (kk := 4) (ii := 0) rfl rfl rfl hl.1 (Nat.le_of_ble_eq_true rfl) dL_law_1589 ⟨by show cells + 2 + 0 ≤ 601024; omega, by show slots + 12 + 0 ≤ 7293034; omega⟩ (fun v w' H locs hp hI => ?_)
    obtain ⟨rfl, rfl⟩ := hp
    rw [FW_m] at hI
    refine lv_istore (lv' := [(7, .int (M_speed M a1 a2).1), (6, .int (cdL EIOB "" E)), (5, .int (nI (4 * t))), (4, .ref bd), (3, .ref bo), (2, .ref (ad 0)), (1, .ref (Z.A 0 0)), (0, .ref b)]) hx hb dL_law_1592 hl (by decide) rfl (fun ls hl => ?_)
    refine lv_aload_n hx hb dL_law_1594 rfl (lv_at hl 5 rfl) ?_
    have hI3 := hI
    rw [← FW_m] at hI3
    refine jx_callV (rest := []) (as := []) hx hb hml hts hown hK hE Dj_m hI3 (cM_thrown G ad (M_speed M a1 a2).2) kLM_107 ⟨(Nat.le_of_ble_eq_true rfl), (Nat.le_of_ble_eq_true rfl)⟩ (kk := 4) (ii := 0) rfl rfl rfl hl.1 (Nat.le_of_ble_eq_true rfl) dL_law_1595 ⟨by show cells + 2 + 0 + 0 ≤ 601024; omega, by show slots + 12 + 0 + 0 ≤ 7293034; omega⟩ (fun v w' H locs hp hI => ?_)
    obtain ⟨rfl, rfl⟩ := hp
    rw [FW_m] at hI
    refine lv_iload (rest := [.int (M_thrown (M_speed M a1 a2).2)]) hx hb dL_law_1598 (lv_at hl 1 rfl) ?_
    refine lv_icmp_eq (tgt := 1605) hx hb dL_law_1600 (by decide) (fun _ => ?_) (fun h0 => absurd s29 h0)
    refine lv_iload hx hb dL_law_1605 (lv_at hl 1 rfl) ?_
    refine lv_if_ne (tgt := 1622) hx hb dL_law_1607 (by decide) (fun _ => ?_) (fun h0 => absurd h0 cdL_ne)
    refine lv_goto (tgt := 1899) hx hb dL_law_1622 (by decide) ?_
    refine W.widen (k := cells + 5) (n := slots + 802) (by show cells + 2 + 0 + 0 ≤ cells + 5; omega) (by show slots + 12 + 0 + 0 ≤ slots + 802; omega) ?_
    exact K _ _ _ _ _ _ _ _ hR rfl hI (lv_sub hl [2, 3, 4, 5, 6, 7] rfl)
