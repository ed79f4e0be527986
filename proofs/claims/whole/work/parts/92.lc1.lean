/-! ===== the law, call by call ===== -/
theorem kLM_106 : CkV "IcehighwayLaw" 106 yX4_piece cX4_piece 5 (some .int) 3 := ⟨q857, q854, q855, q856, q5, by decide +kernel⟩
theorem kLM_107 : CkV "IcehighwayLaw" 107 yX4_thrown cX4_thrown 1 (some .int) 0 := ⟨q853, q850, q851, q852, q5, by decide +kernel⟩
set_option maxHeartbeats 4000000 in
set_option maxRecDepth 100000 in
theorem law_c0 {p : Program} {e : Env} {s : State} {m : MethodId} {below : List Frame} {meth : Method} {c : Code} {b L : Nat} {xs : Nat → Int32} {Q : State → Prop} {G : GX} {A : Nat → Prop} (C0 : LCtx p s m c b L xs G A) (hL : L ≤ 2048) {t : Nat} (hi : 4 * t + 4 ≤ L) {Z : XZ} {S : XS} {M : MS} {ad : Nat → Nat} {bo bd : Nat} {f : Nat → Int64} {g : Nat → UInt64} {H : Heap} {locs : List Loc} {ls : Array Slot} {cells slots : Nat} (h : RXA Z S M t) (hI : fI G.2.2.1 A s.heap (FW G.2.2.2 G.2.1 Z S ad M bo f bd g) H locs) (hl : lv_has ls 9 [(5, .int (nI (4 * t))), (4, .ref bd), (3, .ref bo), (2, .ref (ad 0)), (1, .ref (Z.A 0 0)), (0, .ref b)]) (hcs : cells + 5 ≤ 601024 ∧ slots + 802 ≤ 7293034) (K : LK p e s m below meth c b Q G A ad bo bd (Z.A 0 0) t cells slots) : W p G.1 e room_1 s m #[Value.ref b] below meth c H locs cells slots Q (F0 m 168 ls []) := by
  obtain ⟨hx, hb, hml, hts, hown, hK, hE, hX, hbl, hbA, hst0⟩ := C0
  have ht : t < 512 := by omega
  obtain ⟨a1, ea1⟩ : ∃ z, z = xs (nI (4 * t) + 1).toNatClampNeg := ⟨_, rfl⟩
  have hin1 : vp_in (nI (4 * t) + 1) L := sc_in (k := 1) rfl (by omega) hL
  obtain ⟨a2, ea2⟩ : ∃ z, z = xs (nI (4 * t) + 2).toNatClampNeg := ⟨_, rfl⟩
  have hin2 : vp_in (nI (4 * t) + 2) L := sc_in (k := 2) rfl (by omega) hL
  obtain ⟨a3, ea3⟩ : ∃ z, z = xs (nI (4 * t) + 3).toNatClampNeg := ⟨_, rfl⟩
  have hin3 : vp_in (nI (4 * t) + 3) L := sc_in (k := 3) rfl (by omega) hL
  have hst := st_piece h ht a1 a2 a3
  refine lv_aload_n hx hb dL_law_168 rfl (lv_at hl 4 rfl) ?_
  refine lv_aload_n hx hb dL_law_169 rfl (lv_at hl 5 rfl) ?_
  refine lv_iload hx hb dL_law_170 (lv_at hl 0 rfl) ?_
  refine lv_iconst (v := 1) hx hb dL_law_172 (by decide) ?_
  refine lv_iadd hx hb dL_law_173 ?_
  refine va_sld hx hb hX hbl hbA hI.2.2.1 hin1 dL_law_174 ?_
  rw [← ea1]
  refine lv_aload_n hx hb dL_law_175 rfl (lv_at hl 5 rfl) ?_
  refine lv_iload hx hb dL_law_176 (lv_at hl 0 rfl) ?_
  refine lv_iconst (v := 2) hx hb dL_law_178 (by decide) ?_
  refine lv_iadd hx hb dL_law_179 ?_
  refine va_sld hx hb hX hbl hbA hI.2.2.1 hin2 dL_law_180 ?_
  rw [← ea2]
  refine lv_aload_n hx hb dL_law_181 rfl (lv_at hl 5 rfl) ?_
  refine lv_iload hx hb dL_law_182 (lv_at hl 0 rfl) ?_
  refine lv_iconst (v := 3) hx hb dL_law_184 (by decide) ?_
  refine lv_iadd hx hb dL_law_185 ?_
  refine va_sld hx hb hX hbl hbA hI.2.2.1 hin3 dL_law_186 ?_
  rw [← ea3]
  refine lv_aload_n hx hb dL_law_187 rfl (lv_at hl 2 rfl) ?_
  have hI1 : fI G.2.2.1 A s.heap (jn (jn (xW G.2.2.2 G.2.1 Z S) (oW G.2.2.2 bo f)) (jn (mW G.2.2.2 ad M) (oD G.2.2.2 bd g))) H locs := by rw [FW_w]; exact hI
  refine jx_callH (rest := []) (as := [.ref (Z.A 0 0), .int a1, .int a2, .int a3, .ref bo]) hx hb hml hts hown hK hE Dj_w hI1 (cL_piecew G hst0 Z S bo f a1 a2 a3 h.1.1 h.1.2.1) kH_piece ⟨(Nat.le_of_ble_eq_true rfl), (Nat.le_of_ble_eq_true rfl)⟩ hl.1 (Nat.le_of_ble_eq_true rfl) dL_law_188 ⟨by show cells + 5 ≤ 601024; omega, by show slots + 802 ≤ 7293034; omega⟩ (fun v w' H locs hp hI => ?_)
  rcases hp with ⟨x9, w9, ⟨hT, hx9, h1, h2, rfl⟩, rfl, rfl⟩ | ⟨E9, ⟨hT, hw9⟩, rfl, rfl⟩
  · rcases hst with ⟨sT, s29, sx, hR⟩ | ⟨E, sT, -⟩
    rotate_left
    · exact absurd (hT.symm.trans sT) (fun z => nomatch z)
    cases hx9
    have hR := hR h1 h2
    rw [FW_w] at hI
    refine lv_istore (lv' := [(6, .int (0)), (5, .int (nI (4 * t))), (4, .ref bd), (3, .ref bo), (2, .ref (ad 0)), (1, .ref (Z.A 0 0)), (0, .ref b)]) hx hb dL_law_191 hl (by decide) rfl (fun ls hl => ?_)
    refine lv_aload_n hx hb dL_law_193 rfl (lv_at hl 4 rfl) ?_
    refine lv_aload_n hx hb dL_law_194 rfl (lv_at hl 6 rfl) ?_
    refine lv_iload hx hb dL_law_195 (lv_at hl 1 rfl) ?_
    refine lv_iconst (v := 1) hx hb dL_law_197 (by decide) ?_
    refine lv_iadd hx hb dL_law_198 ?_
    refine va_sld hx hb hX hbl hbA hI.2.2.1 hin1 dL_law_199 ?_
    rw [← ea1]
    refine lv_aload_n hx hb dL_law_200 rfl (lv_at hl 6 rfl) ?_
    refine lv_iload hx hb dL_law_201 (lv_at hl 1 rfl) ?_
    refine lv_iconst (v := 2) hx hb dL_law_203 (by decide) ?_
    refine lv_iadd hx hb dL_law_204 ?_
    refine va_sld hx hb hX hbl hbA hI.2.2.1 hin2 dL_law_205 ?_
    rw [← ea2]
    refine lv_aload_n hx hb dL_law_206 rfl (lv_at hl 6 rfl) ?_
    refine lv_iload hx hb dL_law_207 (lv_at hl 1 rfl) ?_
    refine lv_iconst (v := 3) hx hb dL_law_209 (by decide) ?_
    refine lv_iadd hx hb dL_law_210 ?_
    refine va_sld hx hb hX hbl hbA hI.2.2.1 hin3 dL_law_211 ?_
    rw [← ea3]
    have hI2 := hI
    rw [← FW_m] at hI2
    refine jx_callV (rest := []) (as := [.int a1, .int a2, .int a3]) hx hb hml hts hown hK hE Dj_m hI2 (cM_piece G ad M a1 a2 a3 h.2.1.1) kLM_106 ⟨(Nat.le_of_ble_eq_true rfl), (Nat.le_of_ble_eq_true rfl)⟩ (kk := 4) (ii := 0) rfl rfl rfl hl.1 (Nat.le_of_ble_eq_true rfl) dL_law_212 ⟨by show cells + 5 + 0 ≤ 601024; omega, by show slots + 802 + 0 ≤ 7293034; omega⟩ (fun v w' H locs hp hI => ?_)
    obtain ⟨rfl, rfl⟩ := hp
    rw [FW_m] at hI
    refine lv_istore (lv' := [(7, .int (M_piece M a1 a2 a3).1), (6, .int (0)), (5, .int (nI (4 * t))), (4, .ref bd), (3, .ref bo), (2, .ref (ad 0)), (1, .ref (Z.A 0 0)), (0, .ref b)]) hx hb dL_law_215 hl (by decide) rfl (fun ls hl => ?_)
    refine lv_aload_n hx hb dL_law_217 rfl (lv_at hl 5 rfl) ?_
    have hI3 := hI
    rw [← FW_m] at hI3
    refine jx_callV (rest := []) (as := []) hx hb hml hts hown hK hE Dj_m hI3 (cM_thrown G ad (M_piece M a1 a2 a3).2) kLM_107 ⟨(Nat.le_of_ble_eq_true rfl), (Nat.le_of_ble_eq_true rfl)⟩ (kk := 4) (ii := 0) rfl rfl rfl hl.1 (Nat.le_of_ble_eq_true rfl) dL_law_218 ⟨by show cells + 5 + 0 + 0 ≤ 601024; omega, by show slots + 802 + 0 + 0 ≤ 7293034; omega⟩ (fun v w' H locs hp hI => ?_)
    obtain ⟨rfl, rfl⟩ := hp
    rw [FW_m] at hI
    refine lv_iload (rest := [.int (M_thrown (M_piece M a1 a2 a3).2)]) hx hb dL_law_221 (lv_at hl 1 rfl) ?_
    refine lv_icmp_eq (tgt := 228) hx hb dL_law_223 (by decide) (fun _ => ?_) (fun h0 => absurd s29 h0)
    refine lv_iload hx hb dL_law_228 (lv_at hl 1 rfl) ?_
    refine lv_if_ne (tgt := 245) hx hb dL_law_230 (by decide) (fun h0 => absurd rfl h0) (fun _ => ?_)
    refine lv_aload_n hx hb dL_law_233 rfl (lv_at hl 4 rfl) ?_
    refine lv_iconst (v := 0) hx hb dL_law_234 (by decide) ?_
    refine fx_lald (k := 10) (j := 0) (n := 1) hx hb hK hI FW_10 (i := 0) (by unfold vp_in; decide) dL_law_235 ?_
    refine lv_iload hx hb dL_law_236 (lv_at hl 0 rfl) ?_
    refine lv_i2l hx hb dL_law_238 rfl ?_
    refine W.lcmp hx hb dL_law_239 ?_
    refine lv_if_eq (tgt := 245) hx hb dL_law_240 (by decide) (fun _ => ?_) (fun h0 => absurd (cmpI sx) h0)
    refine lv_goto (tgt := 1899) hx hb dL_law_245 (by decide) ?_
    refine W.widen (k := cells + 5) (n := slots + 802) (by show cells + 5 + 0 + 0 ≤ cells + 5; omega) (by show slots + 802 + 0 + 0 ≤ slots + 802; omega) ?_
    exact K _ _ _ _ _ _ _ _ hR (zA_A (by decide) (by decide)) hI (lv_sub hl [2, 3, 4, 5, 6, 7] rfl)
  · rcases hst with ⟨sT, -⟩ | ⟨E, sT, s29, hR⟩
    · exact absurd (hT.symm.trans sT) (fun z => nomatch z)
    have hEE : E = E9 := Option.some.inj (sT.symm.trans hT)
    subst hEE
    rw [FW_w] at hI
    refine lv_istore (lv' := [(6, .int (cdL EIAE EISE E)), (5, .int (nI (4 * t))), (4, .ref bd), (3, .ref bo), (2, .ref (ad 0)), (1, .ref (Z.A 0 0)), (0, .ref b)]) hx hb dL_law_191 hl (by decide) rfl (fun ls hl => ?_)
    refine lv_aload_n hx hb dL_law_193 rfl (lv_at hl 4 rfl) ?_
    refine lv_aload_n hx hb dL_law_194 rfl (lv_at hl 6 rfl) ?_
    refine lv_iload hx hb dL_law_195 (lv_at hl 1 rfl) ?_
    refine lv_iconst (v := 1) hx hb dL_law_197 (by decide) ?_
    refine lv_iadd hx hb dL_law_198 ?_
    refine va_sld hx hb hX hbl hbA hI.2.2.1 hin1 dL_law_199 ?_
    rw [← ea1]
    refine lv_aload_n hx hb dL_law_200 rfl (lv_at hl 6 rfl) ?_
    refine lv_iload hx hb dL_law_201 (lv_at hl 1 rfl) ?_
    refine lv_iconst (v := 2) hx hb dL_law_203 (by decide) ?_
    refine lv_iadd hx hb dL_law_204 ?_
    refine va_sld hx hb hX hbl hbA hI.2.2.1 hin2 dL_law_205 ?_
    rw [← ea2]
    refine lv_aload_n hx hb dL_law_206 rfl (lv_at hl 6 rfl) ?_
    refine lv_iload hx hb dL_law_207 (lv_at hl 1 rfl) ?_
    refine lv_iconst (v := 3) hx hb dL_law_209 (by decide) ?_
    refine lv_iadd hx hb dL_law_210 ?_
    refine va_sld hx hb hX hbl hbA hI.2.2.1 hin3 dL_law_211 ?_
    rw [← ea3]
    have hI2 := hI
    rw [← FW_m] at hI2
    refine jx_callV (rest := []) (as := [.int a1, .int a2, .int a3]) hx hb hml hts hown hK hE Dj_m hI2 (cM_piece G ad M a1 a2 a3 h.2.1.1) kLM_106 ⟨(Nat.le_of_ble_eq_true rfl), (Nat.le_of_ble_eq_true rfl)⟩ (kk := 4) (ii := 0) rfl rfl rfl hl.1 (Nat.le_of_ble_eq_true rfl) dL_law_212 ⟨by show cells + 5 + 0 ≤ 601024; omega, by show slots + 802 + 0 ≤ 7293034; omega⟩ (fun v w' H locs hp hI => ?_)
    obtain ⟨rfl, rfl⟩ := hp
    rw [FW_m] at hI
    refine lv_istore (lv' := [(7, .int (M_piece M a1 a2 a3).1), (6, .int (cdL EIAE EISE E)), (5, .int (nI (4 * t))), (4, .ref bd), (3, .ref bo), (2, .ref (ad 0)), (1, .ref (Z.A 0 0)), (0, .ref b)]) hx hb dL_law_215 hl (by decide) rfl (fun ls hl => ?_)
    refine lv_aload_n hx hb dL_law_217 rfl (lv_at hl 5 rfl) ?_
    have hI3 := hI
    rw [← FW_m] at hI3
    refine jx_callV (rest := []) (as := []) hx hb hml hts hown hK hE Dj_m hI3 (cM_thrown G ad (M_piece M a1 a2 a3).2) kLM_107 ⟨(Nat.le_of_ble_eq_true rfl), (Nat.le_of_ble_eq_true rfl)⟩ (kk := 4) (ii := 0) rfl rfl rfl hl.1 (Nat.le_of_ble_eq_true rfl) dL_law_218 ⟨by show cells + 5 + 0 + 0 ≤ 601024; omega, by show slots + 802 + 0 + 0 ≤ 7293034; omega⟩ (fun v w' H locs hp hI => ?_)
    obtain ⟨rfl, rfl⟩ := hp
    rw [FW_m] at hI
    refine lv_iload (rest := [.int (M_thrown (M_piece M a1 a2 a3).2)]) hx hb dL_law_221 (lv_at hl 1 rfl) ?_
    refine lv_icmp_eq (tgt := 228) hx hb dL_law_223 (by decide) (fun _ => ?_) (fun h0 => absurd s29 h0)
    refine lv_iload hx hb dL_law_228 (lv_at hl 1 rfl) ?_
    refine lv_if_ne (tgt := 245) hx hb dL_law_230 (by decide) (fun _ => ?_) (fun h0 => absurd h0 cdL_ne)
    refine lv_goto (tgt := 1899) hx hb dL_law_245 (by decide) ?_
    refine W.widen (k := cells + 5) (n := slots + 802) (by show cells + 5 + 0 + 0 ≤ cells + 5; omega) (by show slots + 802 + 0 + 0 ≤ slots + 802; omega) ?_
    exact K _ _ _ _ _ _ _ _ hR rfl hI (lv_sub hl [2, 3, 4, 5, 6, 7] rfl)
theorem kLM_114 : CkV "IcehighwayLaw" 114 yX4_weather cX4_weather 3 (some .int) 1 := ⟨q869, q866, q867, q868, q5, by decide +kernel⟩
set_option maxHeartbeats 4000000 in
set_option maxRecDepth 100000 in
theorem law_c1 {p : Program} {e : Env} {s : State} {m : MethodId} {below : List Frame} {meth : Method} {c : Code} {b L : Nat} {xs : Nat → Int32} {Q : State → Prop} {G : GX} {A : Nat → Prop} (C0 : LCtx p s m c b L xs G A) (hL : L ≤ 2048) {t : Nat} (hi : 4 * t + 4 ≤ L) {Z : XZ} {S : XS} {M : MS} {ad : Nat → Nat} {bo bd : Nat} {f : Nat → Int64} {g : Nat → UInt64} {H : Heap} {locs : List Loc} {ls : Array Slot} {cells slots : Nat} (h : RXA Z S M t) (hI : fI G.2.2.1 A s.heap (FW G.2.2.2 G.2.1 Z S ad M bo f bd g) H locs) (hl : lv_has ls 9 [(5, .int (nI (4 * t))), (4, .ref bd), (3, .ref bo), (2, .ref (ad 0)), (1, .ref (Z.A 0 0)), (0, .ref b)]) (hcs : cells + 5 ≤ 601024 ∧ slots + 802 ≤ 7293034) (K : LK p e s m below meth c b Q G A ad bo bd (Z.A 0 0) t cells slots) : W p G.1 e room_1 s m #[Value.ref b] below meth c H locs cells slots Q (F0 m 248 ls []) := by
  obtain ⟨hx, hb, hml, hts, hown, hK, hE, hX, hbl, hbA, hst0⟩ := C0
  have ht : t < 512 := by omega
  obtain ⟨a1, ea1⟩ : ∃ z, z = xs (nI (4 * t) + 1).toNatClampNeg := ⟨_, rfl⟩
  have hin1 : vp_in (nI (4 * t) + 1) L := sc_in (k := 1) rfl (by omega) hL
  have hst := st_weatherA h ht a1
  refine lv_aload_n hx hb dL_law_248 rfl (lv_at hl 4 rfl) ?_
  refine lv_aload_n hx hb dL_law_249 rfl (lv_at hl 5 rfl) ?_
  refine lv_iload hx hb dL_law_250 (lv_at hl 0 rfl) ?_
  refine lv_iconst (v := 1) hx hb dL_law_252 (by decide) ?_
  refine lv_iadd hx hb dL_law_253 ?_
  refine va_sld hx hb hX hbl hbA hI.2.2.1 hin1 dL_law_254 ?_
  rw [← ea1]
  refine lv_aload_n hx hb dL_law_255 rfl (lv_at hl 2 rfl) ?_
  have hI1 : fI G.2.2.1 A s.heap (jn (jn (xW G.2.2.2 G.2.1 Z S) (oW G.2.2.2 bo f)) (jn (mW G.2.2.2 ad M) (oD G.2.2.2 bd g))) H locs := by rw [FW_w]; exact hI
  refine jx_callH (rest := []) (as := [.ref (Z.A 0 0), .int a1, .ref bo]) hx hb hml hts hown hK hE Dj_w hI1 (cL_weatherw G hst0 Z S bo f a1) kH_weather ⟨(Nat.le_of_ble_eq_true rfl), (Nat.le_of_ble_eq_true rfl)⟩ hl.1 (Nat.le_of_ble_eq_true rfl) dL_law_256 ⟨by show cells + 1 ≤ 601024; omega, by show slots + 6 ≤ 7293034; omega⟩ (fun v w' H locs hp hI => ?_)
  rcases hp with ⟨x9, w9, ⟨hT, hx9, rfl⟩, rfl, rfl⟩ | ⟨E9, ⟨hT, hw9⟩, rfl, rfl⟩
  · rcases hst with ⟨sT, s29, sx, hR⟩ | ⟨E, sT, -⟩
    rotate_left
    · exact absurd (hT.symm.trans sT) (fun z => nomatch z)
    cases hx9
    rw [FW_w] at hI
    refine lv_istore (lv' := [(6, .int (0)), (5, .int (nI (4 * t))), (4, .ref bd), (3, .ref bo), (2, .ref (ad 0)), (1, .ref (Z.A 0 0)), (0, .ref b)]) hx hb dL_law_259 hl (by decide) rfl (fun ls hl => ?_)
    refine lv_aload_n hx hb dL_law_261 rfl (lv_at hl 4 rfl) ?_
    refine lv_aload_n hx hb dL_law_262 rfl (lv_at hl 6 rfl) ?_
    refine lv_iload hx hb dL_law_263 (lv_at hl 1 rfl) ?_
    refine lv_iconst (v := 1) hx hb dL_law_265 (by decide) ?_
    refine lv_iadd hx hb dL_law_266 ?_
    refine va_sld hx hb hX hbl hbA hI.2.2.1 hin1 dL_law_267 ?_
    rw [← ea1]
    have hI2 := hI
    rw [← FW_m] at hI2
    refine jx_callV (rest := []) (as := [.int a1]) hx hb hml hts hown hK hE Dj_m hI2 (cM_weather G ad M a1) kLM_114 ⟨(Nat.le_of_ble_eq_true rfl), (Nat.le_of_ble_eq_true rfl)⟩ (kk := 4) (ii := 0) rfl rfl rfl hl.1 (Nat.le_of_ble_eq_true rfl) dL_law_268 ⟨by show cells + 1 + 0 ≤ 601024; omega, by show slots + 6 + 0 ≤ 7293034; omega⟩ (fun v w' H locs hp hI => ?_)
    obtain ⟨rfl, rfl⟩ := hp
    rw [FW_m] at hI
    refine lv_istore (lv' := [(7, .int (M_weather M a1).1), (6, .int (0)), (5, .int (nI (4 * t))), (4, .ref bd), (3, .ref bo), (2, .ref (ad 0)), (1, .ref (Z.A 0 0)), (0, .ref b)]) hx hb dL_law_271 hl (by decide) rfl (fun ls hl => ?_)
    refine lv_aload_n hx hb dL_law_273 rfl (lv_at hl 5 rfl) ?_
    have hI3 := hI
    rw [← FW_m] at hI3
    refine jx_callV (rest := []) (as := []) hx hb hml hts hown hK hE Dj_m hI3 (cM_thrown G ad (M_weather M a1).2) kLM_107 ⟨(Nat.le_of_ble_eq_true rfl), (Nat.le_of_ble_eq_true rfl)⟩ (kk := 4) (ii := 0) rfl rfl rfl hl.1 (Nat.le_of_ble_eq_true rfl) dL_law_274 ⟨by show cells + 1 + 0 + 0 ≤ 601024; omega, by show slots + 6 + 0 + 0 ≤ 7293034; omega⟩ (fun v w' H locs hp hI => ?_)
    obtain ⟨rfl, rfl⟩ := hp
    rw [FW_m] at hI
    refine lv_iload (rest := [.int (M_thrown (M_weather M a1).2)]) hx hb dL_law_277 (lv_at hl 1 rfl) ?_
    refine lv_icmp_eq (tgt := 284) hx hb dL_law_279 (by decide) (fun _ => ?_) (fun h0 => absurd s29 h0)
    refine lv_iload hx hb dL_law_284 (lv_at hl 1 rfl) ?_
    refine lv_if_ne (tgt := 301) hx hb dL_law_286 (by decide) (fun h0 => absurd rfl h0) (fun _ => ?_)
    refine lv_aload_n hx hb dL_law_289 rfl (lv_at hl 4 rfl) ?_
    refine lv_iconst (v := 0) hx hb dL_law_290 (by decide) ?_
    refine fx_lald (k := 10) (j := 0) (n := 1) hx hb hK hI FW_10 (i := 0) (by unfold vp_in; decide) dL_law_291 ?_
    refine lv_iload hx hb dL_law_292 (lv_at hl 0 rfl) ?_
    refine lv_i2l hx hb dL_law_294 rfl ?_
    refine W.lcmp hx hb dL_law_295 ?_
    refine lv_if_eq (tgt := 301) hx hb dL_law_296 (by decide) (fun _ => ?_) (fun h0 => absurd (cmpI sx) h0)
    refine lv_goto (tgt := 1899) hx hb dL_law_301 (by decide) ?_
    refine W.widen (k := cells + 5) (n := slots + 802) (by show cells + 1 + 0 + 0 ≤ cells + 5; omega) (by show slots + 6 + 0 + 0 ≤ slots + 802; omega) ?_
    exact K _ _ _ _ _ _ _ _ hR rfl hI (lv_sub hl [2, 3, 4, 5, 6, 7] rfl)
  · rcases hst with ⟨sT, -⟩ | ⟨E, sT, s29, hR⟩
    · exact absurd (hT.symm.trans sT) (fun z => nomatch z)
    have hEE : E = E9 := Option.some.inj (sT.symm.trans hT)
    subst hEE
    rw [FW_w] at hI
    refine lv_istore (lv' := [(6, .int (cdL EIAE "" E)), (5, .int (nI (4 * t))), (4, .ref bd), (3, .ref bo), (2, .ref (ad 0)), (1, .ref (Z.A 0 0)), (0, .ref b)]) hx hb dL_law_259 hl (by decide) rfl (fun ls hl => ?_)
    refine lv_aload_n hx hb dL_law_261 rfl (lv_at hl 4 rfl) ?_
    refine lv_aload_n hx hb dL_law_262 rfl (lv_at hl 6 rfl) ?_
    refine lv_iload hx hb dL_law_263 (lv_at hl 1 rfl) ?_
    refine lv_iconst (v := 1) hx hb dL_law_265 (by decide) ?_
    refine lv_iadd hx hb dL_law_266 ?_
    refine va_sld hx hb hX hbl hbA hI.2.2.1 hin1 dL_law_267 ?_
    rw [← ea1]
    have hI2 := hI
    rw [← FW_m] at hI2
    refine jx_callV (rest := []) (as := [.int a1]) hx hb hml hts hown hK hE Dj_m hI2 (cM_weather G ad M a1) kLM_114 ⟨(Nat.le_of_ble_eq_true rfl), (Nat.le_of_ble_eq_true rfl)⟩ (kk := 4) (ii := 0) rfl rfl rfl hl.1 (Nat.le_of_ble_eq_true rfl) dL_law_268 ⟨by show cells + 1 + 0 ≤ 601024; omega, by show slots + 6 + 0 ≤ 7293034; omega⟩ (fun v w' H locs hp hI => ?_)
    obtain ⟨rfl, rfl⟩ := hp
    rw [FW_m] at hI
    refine lv_istore (lv' := [(7, .int (M_weather M a1).1), (6, .int (cdL EIAE "" E)), (5, .int (nI (4 * t))), (4, .ref bd), (3, .ref bo), (2, .ref (ad 0)), (1, .ref (Z.A 0 0)), (0, .ref b)]) hx hb dL_law_271 hl (by decide) rfl (fun ls hl => ?_)
    refine lv_aload_n hx hb dL_law_273 rfl (lv_at hl 5 rfl) ?_
    have hI3 := hI
    rw [← FW_m] at hI3
    refine jx_callV (rest := []) (as := []) hx hb hml hts hown hK hE Dj_m hI3 (cM_thrown G ad (M_weather M a1).2) kLM_107 ⟨(Nat.le_of_ble_eq_true rfl), (Nat.le_of_ble_eq_true rfl)⟩ (kk := 4) (ii := 0) rfl rfl rfl hl.1 (Nat.le_of_ble_eq_true rfl) dL_law_274 ⟨by show cells + 1 + 0 + 0 ≤ 601024; omega, by show slots + 6 + 0 + 0 ≤ 7293034; omega⟩ (fun v w' H locs hp hI => ?_)
    obtain ⟨rfl, rfl⟩ := hp
    rw [FW_m] at hI
    refine lv_iload (rest := [.int (M_thrown (M_weather M a1).2)]) hx hb dL_law_277 (lv_at hl 1 rfl) ?_
    refine lv_icmp_eq (tgt := 284) hx hb dL_law_279 (by decide) (fun _ => ?_) (fun h0 => absurd s29 h0)
    refine lv_iload hx hb dL_law_284 (lv_at hl 1 rfl) ?_
    refine lv_if_ne (tgt := 301) hx hb dL_law_286 (by decide) (fun _ => ?_) (fun h0 => absurd h0 cdL_ne)
    refine lv_goto (tgt := 1899) hx hb dL_law_301 (by decide) ?_
    refine W.widen (k := cells + 5) (n := slots + 802) (by show cells + 1 + 0 + 0 ≤ cells + 5; omega) (by show slots + 6 + 0 + 0 ≤ slots + 802; omega) ?_
    exact K _ _ _ _ _ _ _ _ hR rfl hI (lv_sub hl [2, 3, 4, 5, 6, 7] rfl)
theorem kLM_117 : CkV "IcehighwayLaw" 117 yX4_snow cX4_snow 3 (some .int) 1 := ⟨q873, q870, q871, q872, q5, by decide +kernel⟩
set_option maxHeartbeats 4000000 in
set_option maxRecDepth 100000 in
theorem law_c2 {p : Program} {e : Env} {s : State} {m : MethodId} {below : List Frame} {meth : Method} {c : Code} {b L : Nat} {xs : Nat → Int32} {Q : State → Prop} {G : GX} {A : Nat → Prop} (C0 : LCtx p s m c b L xs G A) (hL : L ≤ 2048) {t : Nat} (hi : 4 * t + 4 ≤ L) {Z : XZ} {S : XS} {M : MS} {ad : Nat → Nat} {bo bd : Nat} {f : Nat → Int64} {g : Nat → UInt64} {H : Heap} {locs : List Loc} {ls : Array Slot} {cells slots : Nat} (h : RXA Z S M t) (hI : fI G.2.2.1 A s.heap (FW G.2.2.2 G.2.1 Z S ad M bo f bd g) H locs) (hl : lv_has ls 9 [(5, .int (nI (4 * t))), (4, .ref bd), (3, .ref bo), (2, .ref (ad 0)), (1, .ref (Z.A 0 0)), (0, .ref b)]) (hcs : cells + 5 ≤ 601024 ∧ slots + 802 ≤ 7293034) (K : LK p e s m below meth c b Q G A ad bo bd (Z.A 0 0) t cells slots) : W p G.1 e room_1 s m #[Value.ref b] below meth c H locs cells slots Q (F0 m 304 ls []) := by
  obtain ⟨hx, hb, hml, hts, hown, hK, hE, hX, hbl, hbA, hst0⟩ := C0
  have ht : t < 512 := by omega
  obtain ⟨a1, ea1⟩ : ∃ z, z = xs (nI (4 * t) + 1).toNatClampNeg := ⟨_, rfl⟩
  have hin1 : vp_in (nI (4 * t) + 1) L := sc_in (k := 1) rfl (by omega) hL
  have hst := st_snow h ht a1
  refine lv_aload_n hx hb dL_law_304 rfl (lv_at hl 4 rfl) ?_
  refine lv_aload_n hx hb dL_law_305 rfl (lv_at hl 5 rfl) ?_
  refine lv_iload hx hb dL_law_306 (lv_at hl 0 rfl) ?_
  refine lv_iconst (v := 1) hx hb dL_law_308 (by decide) ?_
  refine lv_iadd hx hb dL_law_309 ?_
  refine va_sld hx hb hX hbl hbA hI.2.2.1 hin1 dL_law_310 ?_
  rw [← ea1]
  refine lv_aload_n hx hb dL_law_311 rfl (lv_at hl 2 rfl) ?_
  have hI1 : fI G.2.2.1 A s.heap (jn (jn (xW G.2.2.2 G.2.1 Z S) (oW G.2.2.2 bo f)) (jn (mW G.2.2.2 ad M) (oD G.2.2.2 bd g))) H locs := by rw [FW_w]; exact hI
  refine jx_callH (rest := []) (as := [.ref (Z.A 0 0), .int a1, .ref bo]) hx hb hml hts hown hK hE Dj_w hI1 (cL_snoww G hst0 Z S bo f a1 h.1.1) kH_snow ⟨(Nat.le_of_ble_eq_true rfl), (Nat.le_of_ble_eq_true rfl)⟩ hl.1 (Nat.le_of_ble_eq_true rfl) dL_law_312 ⟨by show cells + 1 ≤ 601024; omega, by show slots + 6 ≤ 7293034; omega⟩ (fun v w' H locs hp hI => ?_)
  rcases hp with ⟨x9, w9, ⟨hT, hx9, rfl⟩, rfl, rfl⟩ | ⟨E9, ⟨hT, hw9⟩, rfl, rfl⟩
  · rcases hst with ⟨sT, s29, sx, hR⟩ | ⟨E, sT, -⟩
    rotate_left
    · exact absurd (hT.symm.trans sT) (fun z => nomatch z)
    cases hx9
    rw [FW_w] at hI
    refine lv_istore (lv' := [(6, .int (0)), (5, .int (nI (4 * t))), (4, .ref bd), (3, .ref bo), (2, .ref (ad 0)), (1, .ref (Z.A 0 0)), (0, .ref b)]) hx hb dL_law_315 hl (by decide) rfl (fun ls hl => ?_)
    refine lv_aload_n hx hb dL_law_317 rfl (lv_at hl 4 rfl) ?_
    refine lv_aload_n hx hb dL_law_318 rfl (lv_at hl 6 rfl) ?_
    refine lv_iload hx hb dL_law_319 (lv_at hl 1 rfl) ?_
    refine lv_iconst (v := 1) hx hb dL_law_321 (by decide) ?_
    refine lv_iadd hx hb dL_law_322 ?_
    refine va_sld hx hb hX hbl hbA hI.2.2.1 hin1 dL_law_323 ?_
    rw [← ea1]
    have hI2 := hI
    rw [← FW_m] at hI2
    refine jx_callV (rest := []) (as := [.int a1]) hx hb hml hts hown hK hE Dj_m hI2 (cM_snow G ad M a1 h.2.1.1) kLM_117 ⟨(Nat.le_of_ble_eq_true rfl), (Nat.le_of_ble_eq_true rfl)⟩ (kk := 4) (ii := 0) rfl rfl rfl hl.1 (Nat.le_of_ble_eq_true rfl) dL_law_324 ⟨by show cells + 1 + 0 ≤ 601024; omega, by show slots + 6 + 0 ≤ 7293034; omega⟩ (fun v w' H locs hp hI => ?_)
    obtain ⟨rfl, rfl⟩ := hp
    rw [FW_m] at hI
    refine lv_istore (lv' := [(7, .int (M_snow M a1).1), (6, .int (0)), (5, .int (nI (4 * t))), (4, .ref bd), (3, .ref bo), (2, .ref (ad 0)), (1, .ref (Z.A 0 0)), (0, .ref b)]) hx hb dL_law_327 hl (by decide) rfl (fun ls hl => ?_)
    refine lv_aload_n hx hb dL_law_329 rfl (lv_at hl 5 rfl) ?_
    have hI3 := hI
    rw [← FW_m] at hI3
    refine jx_callV (rest := []) (as := []) hx hb hml hts hown hK hE Dj_m hI3 (cM_thrown G ad (M_snow M a1).2) kLM_107 ⟨(Nat.le_of_ble_eq_true rfl), (Nat.le_of_ble_eq_true rfl)⟩ (kk := 4) (ii := 0) rfl rfl rfl hl.1 (Nat.le_of_ble_eq_true rfl) dL_law_330 ⟨by show cells + 1 + 0 + 0 ≤ 601024; omega, by show slots + 6 + 0 + 0 ≤ 7293034; omega⟩ (fun v w' H locs hp hI => ?_)
    obtain ⟨rfl, rfl⟩ := hp
    rw [FW_m] at hI
    refine lv_iload (rest := [.int (M_thrown (M_snow M a1).2)]) hx hb dL_law_333 (lv_at hl 1 rfl) ?_
    refine lv_icmp_eq (tgt := 340) hx hb dL_law_335 (by decide) (fun _ => ?_) (fun h0 => absurd s29 h0)
    refine lv_iload hx hb dL_law_340 (lv_at hl 1 rfl) ?_
    refine lv_if_ne (tgt := 357) hx hb dL_law_342 (by decide) (fun h0 => absurd rfl h0) (fun _ => ?_)
    refine lv_aload_n hx hb dL_law_345 rfl (lv_at hl 4 rfl) ?_
    refine lv_iconst (v := 0) hx hb dL_law_346 (by decide) ?_
    refine fx_lald (k := 10) (j := 0) (n := 1) hx hb hK hI FW_10 (i := 0) (by unfold vp_in; decide) dL_law_347 ?_
    refine lv_iload hx hb dL_law_348 (lv_at hl 0 rfl) ?_
    refine lv_i2l hx hb dL_law_350 rfl ?_
    refine W.lcmp hx hb dL_law_351 ?_
    refine lv_if_eq (tgt := 357) hx hb dL_law_352 (by decide) (fun _ => ?_) (fun h0 => absurd (cmpI sx) h0)
    refine lv_goto (tgt := 1899) hx hb dL_law_357 (by decide) ?_
    refine W.widen (k := cells + 5) (n := slots + 802) (by show cells + 1 + 0 + 0 ≤ cells + 5; omega) (by show slots + 6 + 0 + 0 ≤ slots + 802; omega) ?_
    exact K _ _ _ _ _ _ _ _ hR rfl hI (lv_sub hl [2, 3, 4, 5, 6, 7] rfl)
  · rcases hst with ⟨sT, -⟩ | ⟨E, sT, s29, hR⟩
    · exact absurd (hT.symm.trans sT) (fun z => nomatch z)
    have hEE : E = E9 := Option.some.inj (sT.symm.trans hT)
    subst hEE
    rw [FW_w] at hI
    refine lv_istore (lv' := [(6, .int (cdL EIAE "" E)), (5, .int (nI (4 * t))), (4, .ref bd), (3, .ref bo), (2, .ref (ad 0)), (1, .ref (Z.A 0 0)), (0, .ref b)]) hx hb dL_law_315 hl (by decide) rfl (fun ls hl => ?_)
    refine lv_aload_n hx hb dL_law_317 rfl (lv_at hl 4 rfl) ?_
    refine lv_aload_n hx hb dL_law_318 rfl (lv_at hl 6 rfl) ?_
    refine lv_iload hx hb dL_law_319 (lv_at hl 1 rfl) ?_
    refine lv_iconst (v := 1) hx hb dL_law_321 (by decide) ?_
    refine lv_iadd hx hb dL_law_322 ?_
    refine va_sld hx hb hX hbl hbA hI.2.2.1 hin1 dL_law_323 ?_
    rw [← ea1]
    have hI2 := hI
    rw [← FW_m] at hI2
    refine jx_callV (rest := []) (as := [.int a1]) hx hb hml hts hown hK hE Dj_m hI2 (cM_snow G ad M a1 h.2.1.1) kLM_117 ⟨(Nat.le_of_ble_eq_true rfl), (Nat.le_of_ble_eq_true rfl)⟩ (kk := 4) (ii := 0) rfl rfl rfl hl.1 (Nat.le_of_ble_eq_true rfl) dL_law_324 ⟨by show cells + 1 + 0 ≤ 601024; omega, by show slots + 6 + 0 ≤ 7293034; omega⟩ (fun v w' H locs hp hI => ?_)
    obtain ⟨rfl, rfl⟩ := hp
    rw [FW_m] at hI
    refine lv_istore (lv' := [(7, .int (M_snow M a1).1), (6, .int (cdL EIAE "" E)), (5, .int (nI (4 * t))), (4, .ref bd), (3, .ref bo), (2, .ref (ad 0)), (1, .ref (Z.A 0 0)), (0, .ref b)]) hx hb dL_law_327 hl (by decide) rfl (fun ls hl => ?_)
    refine lv_aload_n hx hb dL_law_329 rfl (lv_at hl 5 rfl) ?_
    have hI3 := hI
    rw [← FW_m] at hI3
    refine jx_callV (rest := []) (as := []) hx hb hml hts hown hK hE Dj_m hI3 (cM_thrown G ad (M_snow M a1).2) kLM_107 ⟨(Nat.le_of_ble_eq_true rfl), (Nat.le_of_ble_eq_true rfl)⟩ (kk := 4) (ii := 0) rfl rfl rfl hl.1 (Nat.le_of_ble_eq_true rfl) dL_law_330 ⟨by show cells + 1 + 0 + 0 ≤ 601024; omega, by show slots + 6 + 0 + 0 ≤ 7293034; omega⟩ (fun v w' H locs hp hI => ?_)
    obtain ⟨rfl, rfl⟩ := hp
    rw [FW_m] at hI
    refine lv_iload (rest := [.int (M_thrown (M_snow M a1).2)]) hx hb dL_law_333 (lv_at hl 1 rfl) ?_
    refine lv_icmp_eq (tgt := 340) hx hb dL_law_335 (by decide) (fun _ => ?_) (fun h0 => absurd s29 h0)
    refine lv_iload hx hb dL_law_340 (lv_at hl 1 rfl) ?_
    refine lv_if_ne (tgt := 357) hx hb dL_law_342 (by decide) (fun _ => ?_) (fun h0 => absurd h0 cdL_ne)
    refine lv_goto (tgt := 1899) hx hb dL_law_357 (by decide) ?_
    refine W.widen (k := cells + 5) (n := slots + 802) (by show cells + 1 + 0 + 0 ≤ cells + 5; omega) (by show slots + 6 + 0 + 0 ≤ slots + 802; omega) ?_
    exact K _ _ _ _ _ _ _ _ hR rfl hI (lv_sub hl [2, 3, 4, 5, 6, 7] rfl)
theorem kLM_120 : CkV "IcehighwayLaw" 120 yX4_plough cX4_plough 3 (some .int) 1 := ⟨q877, q874, q875, q876, q5, by decide +kernel⟩
set_option maxHeartbeats 4000000 in
set_option maxRecDepth 100000 in
theorem law_c3 {p : Program} {e : Env} {s : State} {m : MethodId} {below : List Frame} {meth : Method} {c : Code} {b L : Nat} {xs : Nat → Int32} {Q : State → Prop} {G : GX} {A : Nat → Prop} (C0 : LCtx p s m c b L xs G A) (hL : L ≤ 2048) {t : Nat} (hi : 4 * t + 4 ≤ L) {Z : XZ} {S : XS} {M : MS} {ad : Nat → Nat} {bo bd : Nat} {f : Nat → Int64} {g : Nat → UInt64} {H : Heap} {locs : List Loc} {ls : Array Slot} {cells slots : Nat} (h : RXA Z S M t) (hI : fI G.2.2.1 A s.heap (FW G.2.2.2 G.2.1 Z S ad M bo f bd g) H locs) (hl : lv_has ls 9 [(5, .int (nI (4 * t))), (4, .ref bd), (3, .ref bo), (2, .ref (ad 0)), (1, .ref (Z.A 0 0)), (0, .ref b)]) (hcs : cells + 5 ≤ 601024 ∧ slots + 802 ≤ 7293034) (K : LK p e s m below meth c b Q G A ad bo bd (Z.A 0 0) t cells slots) : W p G.1 e room_1 s m #[Value.ref b] below meth c H locs cells slots Q (F0 m 360 ls []) := by
  obtain ⟨hx, hb, hml, hts, hown, hK, hE, hX, hbl, hbA, hst0⟩ := C0
  have ht : t < 512 := by omega
  obtain ⟨a1, ea1⟩ : ∃ z, z = xs (nI (4 * t) + 1).toNatClampNeg := ⟨_, rfl⟩
  have hin1 : vp_in (nI (4 * t) + 1) L := sc_in (k := 1) rfl (by omega) hL
  have hst := st_plough h ht a1
  refine lv_aload_n hx hb dL_law_360 rfl (lv_at hl 4 rfl) ?_
  refine lv_aload_n hx hb dL_law_361 rfl (lv_at hl 5 rfl) ?_
  refine lv_iload hx hb dL_law_362 (lv_at hl 0 rfl) ?_
  refine lv_iconst (v := 1) hx hb dL_law_364 (by decide) ?_
  refine lv_iadd hx hb dL_law_365 ?_
  refine va_sld hx hb hX hbl hbA hI.2.2.1 hin1 dL_law_366 ?_
  rw [← ea1]
  refine lv_aload_n hx hb dL_law_367 rfl (lv_at hl 2 rfl) ?_
  have hI1 : fI G.2.2.1 A s.heap (jn (jn (xW G.2.2.2 G.2.1 Z S) (oW G.2.2.2 bo f)) (jn (mW G.2.2.2 ad M) (oD G.2.2.2 bd g))) H locs := by rw [FW_w]; exact hI
  refine jx_callH (rest := []) (as := [.ref (Z.A 0 0), .int a1, .ref bo]) hx hb hml hts hown hK hE Dj_w hI1 (cL_ploughw G hst0 Z S bo f a1 h.1.1) kH_plough ⟨(Nat.le_of_ble_eq_true rfl), (Nat.le_of_ble_eq_true rfl)⟩ hl.1 (Nat.le_of_ble_eq_true rfl) dL_law_368 ⟨by show cells + 1 ≤ 601024; omega, by show slots + 6 ≤ 7293034; omega⟩ (fun v w' H locs hp hI => ?_)
  rcases hp with ⟨x9, w9, ⟨hT, hx9, rfl⟩, rfl, rfl⟩ | ⟨E9, ⟨hT, hw9⟩, rfl, rfl⟩
  · rcases hst with ⟨sT, s29, sx, hR⟩ | ⟨E, sT, -⟩
    rotate_left
    · exact absurd (hT.symm.trans sT) (fun z => nomatch z)
    cases hx9
    rw [FW_w] at hI
    refine lv_istore (lv' := [(6, .int (0)), (5, .int (nI (4 * t))), (4, .ref bd), (3, .ref bo), (2, .ref (ad 0)), (1, .ref (Z.A 0 0)), (0, .ref b)]) hx hb dL_law_371 hl (by decide) rfl (fun ls hl => ?_)
    refine lv_aload_n hx hb dL_law_373 rfl (lv_at hl 4 rfl) ?_
    refine lv_aload_n hx hb dL_law_374 rfl (lv_at hl 6 rfl) ?_
    refine lv_iload hx hb dL_law_375 (lv_at hl 1 rfl) ?_
    refine lv_iconst (v := 1) hx hb dL_law_377 (by decide) ?_
    refine lv_iadd hx hb dL_law_378 ?_
    refine va_sld hx hb hX hbl hbA hI.2.2.1 hin1 dL_law_379 ?_
    rw [← ea1]
    have hI2 := hI
    rw [← FW_m] at hI2
    refine jx_callV (rest := []) (as := [.int a1]) hx hb hml hts hown hK hE Dj_m hI2 (cM_plough G ad M a1 h.2.1.1) kLM_120 ⟨(Nat.le_of_ble_eq_true rfl), (Nat.le_of_ble_eq_true rfl)⟩ (kk := 4) (ii := 0) rfl rfl rfl hl.1 (Nat.le_of_ble_eq_true rfl) dL_law_380 ⟨by show cells + 1 + 0 ≤ 601024; omega, by show slots + 6 + 0 ≤ 7293034; omega⟩ (fun v w' H locs hp hI => ?_)
    obtain ⟨rfl, rfl⟩ := hp
    rw [FW_m] at hI
    refine lv_istore (lv' := [(7, .int (M_plough M a1).1), (6, .int (0)), (5, .int (nI (4 * t))), (4, .ref bd), (3, .ref bo), (2, .ref (ad 0)), (1, .ref (Z.A 0 0)), (0, .ref b)]) hx hb dL_law_383 hl (by decide) rfl (fun ls hl => ?_)
    refine lv_aload_n hx hb dL_law_385 rfl (lv_at hl 5 rfl) ?_
    have hI3 := hI
    rw [← FW_m] at hI3
    refine jx_callV (rest := []) (as := []) hx hb hml hts hown hK hE Dj_m hI3 (cM_thrown G ad (M_plough M a1).2) kLM_107 ⟨(Nat.le_of_ble_eq_true rfl), (Nat.le_of_ble_eq_true rfl)⟩ (kk := 4) (ii := 0) rfl rfl rfl hl.1 (Nat.le_of_ble_eq_true rfl) dL_law_386 ⟨by show cells + 1 + 0 + 0 ≤ 601024; omega, by show slots + 6 + 0 + 0 ≤ 7293034; omega⟩ (fun v w' H locs hp hI => ?_)
    obtain ⟨rfl, rfl⟩ := hp
    rw [FW_m] at hI
    refine lv_iload (rest := [.int (M_thrown (M_plough M a1).2)]) hx hb dL_law_389 (lv_at hl 1 rfl) ?_
    refine lv_icmp_eq (tgt := 396) hx hb dL_law_391 (by decide) (fun _ => ?_) (fun h0 => absurd s29 h0)
    refine lv_iload hx hb dL_law_396 (lv_at hl 1 rfl) ?_
    refine lv_if_ne (tgt := 413) hx hb dL_law_398 (by decide) (fun h0 => absurd rfl h0) (fun _ => ?_)
    refine lv_aload_n hx hb dL_law_401 rfl (lv_at hl 4 rfl) ?_
    refine lv_iconst (v := 0) hx hb dL_law_402 (by decide) ?_
    refine fx_lald (k := 10) (j := 0) (n := 1) hx hb hK hI FW_10 (i := 0) (by unfold vp_in; decide) dL_law_403 ?_
    refine lv_iload hx hb dL_law_404 (lv_at hl 0 rfl) ?_
    refine lv_i2l hx hb dL_law_406 rfl ?_
    refine W.lcmp hx hb dL_law_407 ?_
    refine lv_if_eq (tgt := 413) hx hb dL_law_408 (by decide) (fun _ => ?_) (fun h0 => absurd (cmpI sx) h0)
    refine lv_goto (tgt := 1899) hx hb dL_law_413 (by decide) ?_
    refine W.widen (k := cells + 5) (n := slots + 802) (by show cells + 1 + 0 + 0 ≤ cells + 5; omega) (by show slots + 6 + 0 + 0 ≤ slots + 802; omega) ?_
    exact K _ _ _ _ _ _ _ _ hR rfl hI (lv_sub hl [2, 3, 4, 5, 6, 7] rfl)
  · rcases hst with ⟨sT, -⟩ | ⟨E, sT, s29, hR⟩
    · exact absurd (hT.symm.trans sT) (fun z => nomatch z)
    have hEE : E = E9 := Option.some.inj (sT.symm.trans hT)
    subst hEE
    rw [FW_w] at hI
    refine lv_istore (lv' := [(6, .int (cdL EIOB "" E)), (5, .int (nI (4 * t))), (4, .ref bd), (3, .ref bo), (2, .ref (ad 0)), (1, .ref (Z.A 0 0)), (0, .ref b)]) hx hb dL_law_371 hl (by decide) rfl (fun ls hl => ?_)
    refine lv_aload_n hx hb dL_law_373 rfl (lv_at hl 4 rfl) ?_
    refine lv_aload_n hx hb dL_law_374 rfl (lv_at hl 6 rfl) ?_
    refine lv_iload hx hb dL_law_375 (lv_at hl 1 rfl) ?_
    refine lv_iconst (v := 1) hx hb dL_law_377 (by decide) ?_
    refine lv_iadd hx hb dL_law_378 ?_
    refine va_sld hx hb hX hbl hbA hI.2.2.1 hin1 dL_law_379 ?_
    rw [← ea1]
    have hI2 := hI
    rw [← FW_m] at hI2
    refine jx_callV (rest := []) (as := [.int a1]) hx hb hml hts hown hK hE Dj_m hI2 (cM_plough G ad M a1 h.2.1.1) kLM_120 ⟨(Nat.le_of_ble_eq_true rfl), (Nat.le_of_ble_eq_true rfl)⟩ (kk := 4) (ii := 0) rfl rfl rfl hl.1 (Nat.le_of_ble_eq_true rfl) dL_law_380 ⟨by show cells + 1 + 0 ≤ 601024; omega, by show slots + 6 + 0 ≤ 7293034; omega⟩ (fun v w' H locs hp hI => ?_)
    obtain ⟨rfl, rfl⟩ := hp
    rw [FW_m] at hI
    refine lv_istore (lv' := [(7, .int (M_plough M a1).1), (6, .int (cdL EIOB "" E)), (5, .int (nI (4 * t))), (4, .ref bd), (3, .ref bo), (2, .ref (ad 0)), (1, .ref (Z.A 0 0)), (0, .ref b)]) hx hb dL_law_383 hl (by decide) rfl (fun ls hl => ?_)
    refine lv_aload_n hx hb dL_law_385 rfl (lv_at hl 5 rfl) ?_
    have hI3 := hI
    rw [← FW_m] at hI3
    refine jx_callV (rest := []) (as := []) hx hb hml hts hown hK hE Dj_m hI3 (cM_thrown G ad (M_plough M a1).2) kLM_107 ⟨(Nat.le_of_ble_eq_true rfl), (Nat.le_of_ble_eq_true rfl)⟩ (kk := 4) (ii := 0) rfl rfl rfl hl.1 (Nat.le_of_ble_eq_true rfl) dL_law_386 ⟨by show cells + 1 + 0 + 0 ≤ 601024; omega, by show slots + 6 + 0 + 0 ≤ 7293034; omega⟩ (fun v w' H locs hp hI => ?_)
    obtain ⟨rfl, rfl⟩ := hp
    rw [FW_m] at hI
    refine lv_iload (rest := [.int (M_thrown (M_plough M a1).2)]) hx hb dL_law_389 (lv_at hl 1 rfl) ?_
    refine lv_icmp_eq (tgt := 396) hx hb dL_law_391 (by decide) (fun _ => ?_) (fun h0 => absurd s29 h0)
    refine lv_iload hx hb dL_law_396 (lv_at hl 1 rfl) ?_
    refine lv_if_ne (tgt := 413) hx hb dL_law_398 (by decide) (fun _ => ?_) (fun h0 => absurd h0 cdL_ne)
    refine lv_goto (tgt := 1899) hx hb dL_law_413 (by decide) ?_
    refine W.widen (k := cells + 5) (n := slots + 802) (by show cells + 1 + 0 + 0 ≤ cells + 5; omega) (by show slots + 6 + 0 + 0 ≤ slots + 802; omega) ?_
    exact K _ _ _ _ _ _ _ _ hR rfl hI (lv_sub hl [2, 3, 4, 5, 6, 7] rfl)
theorem kLM_124 : CkV "IcehighwayLaw" 124 yX4_flood cX4_flood 6 (some .int) 2 := ⟨q885, q882, q883, q884, q5, by decide +kernel⟩
set_option maxHeartbeats 4000000 in
set_option maxRecDepth 100000 in
theorem law_c4 {p : Program} {e : Env} {s : State} {m : MethodId} {below : List Frame} {meth : Method} {c : Code} {b L : Nat} {xs : Nat → Int32} {Q : State → Prop} {G : GX} {A : Nat → Prop} (C0 : LCtx p s m c b L xs G A) (hL : L ≤ 2048) {t : Nat} (hi : 4 * t + 4 ≤ L) {Z : XZ} {S : XS} {M : MS} {ad : Nat → Nat} {bo bd : Nat} {f : Nat → Int64} {g : Nat → UInt64} {H : Heap} {locs : List Loc} {ls : Array Slot} {cells slots : Nat} (h : RXA Z S M t) (hI : fI G.2.2.1 A s.heap (FW G.2.2.2 G.2.1 Z S ad M bo f bd g) H locs) (hl : lv_has ls 9 [(5, .int (nI (4 * t))), (4, .ref bd), (3, .ref bo), (2, .ref (ad 0)), (1, .ref (Z.A 0 0)), (0, .ref b)]) (hcs : cells + 5 ≤ 601024 ∧ slots + 802 ≤ 7293034) (K : LK p e s m below meth c b Q G A ad bo bd (Z.A 0 0) t cells slots) : W p G.1 e room_1 s m #[Value.ref b] below meth c H locs cells slots Q (F0 m 416 ls []) := by
  obtain ⟨hx, hb, hml, hts, hown, hK, hE, hX, hbl, hbA, hst0⟩ := C0
  have ht : t < 512 := by omega
  obtain ⟨a1, ea1⟩ : ∃ z, z = xs (nI (4 * t) + 1).toNatClampNeg := ⟨_, rfl⟩
  have hin1 : vp_in (nI (4 * t) + 1) L := sc_in (k := 1) rfl (by omega) hL
  obtain ⟨a2, ea2⟩ : ∃ z, z = xs (nI (4 * t) + 2).toNatClampNeg := ⟨_, rfl⟩
  have hin2 : vp_in (nI (4 * t) + 2) L := sc_in (k := 2) rfl (by omega) hL
  have hst := st_flood h ht a1 a2
  refine lv_aload_n hx hb dL_law_416 rfl (lv_at hl 4 rfl) ?_
  refine lv_aload_n hx hb dL_law_417 rfl (lv_at hl 5 rfl) ?_
  refine lv_iload hx hb dL_law_418 (lv_at hl 0 rfl) ?_
  refine lv_iconst (v := 1) hx hb dL_law_420 (by decide) ?_
  refine lv_iadd hx hb dL_law_421 ?_
  refine va_sld hx hb hX hbl hbA hI.2.2.1 hin1 dL_law_422 ?_
  rw [← ea1]
  refine lv_aload_n hx hb dL_law_423 rfl (lv_at hl 5 rfl) ?_
  refine lv_iload hx hb dL_law_424 (lv_at hl 0 rfl) ?_
  refine lv_iconst (v := 2) hx hb dL_law_426 (by decide) ?_
  refine lv_iadd hx hb dL_law_427 ?_
  refine va_sld hx hb hX hbl hbA hI.2.2.1 hin2 dL_law_428 ?_
  rw [← ea2]
  refine lv_aload_n hx hb dL_law_429 rfl (lv_at hl 2 rfl) ?_
  have hI1 : fI G.2.2.1 A s.heap (jn (jn (xW G.2.2.2 G.2.1 Z S) (oW G.2.2.2 bo f)) (jn (mW G.2.2.2 ad M) (oD G.2.2.2 bd g))) H locs := by rw [FW_w]; exact hI
  refine jx_callH (rest := []) (as := [.ref (Z.A 0 0), .int a1, .int a2, .ref bo]) hx hb hml hts hown hK hE Dj_w hI1 (cL_floodw G hst0 Z S bo f a1 a2 h.1.1) kH_flood ⟨(Nat.le_of_ble_eq_true rfl), (Nat.le_of_ble_eq_true rfl)⟩ hl.1 (Nat.le_of_ble_eq_true rfl) dL_law_430 ⟨by show cells + 3 ≤ 601024; omega, by show slots + 18 ≤ 7293034; omega⟩ (fun v w' H locs hp hI => ?_)
  rcases hp with ⟨x9, w9, ⟨hT, hx9, rfl⟩, rfl, rfl⟩ | ⟨E9, ⟨hT, hw9⟩, rfl, rfl⟩
  · rcases hst with ⟨sT, s29, sx, hR⟩ | ⟨E, sT, -⟩
    rotate_left
    · exact absurd (hT.symm.trans sT) (fun z => nomatch z)
    cases hx9
    rw [FW_w] at hI
    refine lv_istore (lv' := [(6, .int (0)), (5, .int (nI (4 * t))), (4, .ref bd), (3, .ref bo), (2, .ref (ad 0)), (1, .ref (Z.A 0 0)), (0, .ref b)]) hx hb dL_law_433 hl (by decide) rfl (fun ls hl => ?_)
    refine lv_aload_n hx hb dL_law_435 rfl (lv_at hl 4 rfl) ?_
    refine lv_aload_n hx hb dL_law_436 rfl (lv_at hl 6 rfl) ?_
    refine lv_iload hx hb dL_law_437 (lv_at hl 1 rfl) ?_
    refine lv_iconst (v := 1) hx hb dL_law_439 (by decide) ?_
    refine lv_iadd hx hb dL_law_440 ?_
    refine va_sld hx hb hX hbl hbA hI.2.2.1 hin1 dL_law_441 ?_
    rw [← ea1]
    refine lv_aload_n hx hb dL_law_442 rfl (lv_at hl 6 rfl) ?_
    refine lv_iload hx hb dL_law_443 (lv_at hl 1 rfl) ?_
    refine lv_iconst (v := 2) hx hb dL_law_445 (by decide) ?_
    refine lv_iadd hx hb dL_law_446 ?_
    refine va_sld hx hb hX hbl hbA hI.2.2.1 hin2 dL_law_447 ?_
    rw [← ea2]
    have hI2 := hI
    rw [← FW_m] at hI2
    refine jx_callV (rest := []) (as := [.int a1, .int a2]) hx hb hml hts hown hK hE Dj_m hI2 (cM_flood G ad M a1 a2 h.2.1.1) kLM_124 ⟨(Nat.le_of_ble_eq_true rfl), (Nat.le_of_ble_eq_true rfl)⟩ (kk := 4) (ii := 0) rfl rfl rfl hl.1 (Nat.le_of_ble_eq_true rfl) dL_law_448 ⟨by show cells + 3 + 0 ≤ 601024; omega, by show slots + 18 + 0 ≤ 7293034; omega⟩ (fun v w' H locs hp hI => ?_)
    obtain ⟨rfl, rfl⟩ := hp
    rw [FW_m] at hI
    refine lv_istore (lv' := [(7, .int (M_flood M a1 a2).1), (6, .int (0)), (5, .int (nI (4 * t))), (4, .ref bd), (3, .ref bo), (2, .ref (ad 0)), (1, .ref (Z.A 0 0)), (0, .ref b)]) hx hb dL_law_451 hl (by decide) rfl (fun ls hl => ?_)
    refine lv_aload_n hx hb dL_law_453 rfl (lv_at hl 5 rfl) ?_
    have hI3 := hI
    rw [← FW_m] at hI3
    refine jx_callV (rest := []) (as := []) hx hb hml hts hown hK hE Dj_m hI3 (cM_thrown G ad (M_flood M a1 a2).2) kLM_107 ⟨(Nat.le_of_ble_eq_true rfl), (Nat.le_of_ble_eq_true rfl)⟩ (kk := 4) (ii := 0) rfl rfl rfl hl.1 (Nat.le_of_ble_eq_true rfl) dL_law_454 ⟨by show cells + 3 + 0 + 0 ≤ 601024; omega, by show slots + 18 + 0 + 0 ≤ 7293034; omega⟩ (fun v w' H locs hp hI => ?_)
    obtain ⟨rfl, rfl⟩ := hp
    rw [FW_m] at hI
    refine lv_iload (rest := [.int (M_thrown (M_flood M a1 a2).2)]) hx hb dL_law_457 (lv_at hl 1 rfl) ?_
    refine lv_icmp_eq (tgt := 464) hx hb dL_law_459 (by decide) (fun _ => ?_) (fun h0 => absurd s29 h0)
    refine lv_iload hx hb dL_law_464 (lv_at hl 1 rfl) ?_
    refine lv_if_ne (tgt := 481) hx hb dL_law_466 (by decide) (fun h0 => absurd rfl h0) (fun _ => ?_)
    refine lv_aload_n hx hb dL_law_469 rfl (lv_at hl 4 rfl) ?_
    refine lv_iconst (v := 0) hx hb dL_law_470 (by decide) ?_
    refine fx_lald (k := 10) (j := 0) (n := 1) hx hb hK hI FW_10 (i := 0) (by unfold vp_in; decide) dL_law_471 ?_
    refine lv_iload hx hb dL_law_472 (lv_at hl 0 rfl) ?_
    refine lv_i2l hx hb dL_law_474 rfl ?_
    refine W.lcmp hx hb dL_law_475 ?_
    refine lv_if_eq (tgt := 481) hx hb dL_law_476 (by decide) (fun _ => ?_) (fun h0 => absurd (cmpI sx) h0)
    refine lv_goto (tgt := 1899) hx hb dL_law_481 (by decide) ?_
    refine W.widen (k := cells + 5) (n := slots + 802) (by show cells + 3 + 0 + 0 ≤ cells + 5; omega) (by show slots + 18 + 0 + 0 ≤ slots + 802; omega) ?_
    exact K _ _ _ _ _ _ _ _ hR rfl hI (lv_sub hl [2, 3, 4, 5, 6, 7] rfl)
  · rcases hst with ⟨sT, -⟩ | ⟨E, sT, s29, hR⟩
    · exact absurd (hT.symm.trans sT) (fun z => nomatch z)
    have hEE : E = E9 := Option.some.inj (sT.symm.trans hT)
    subst hEE
    rw [FW_w] at hI
    refine lv_istore (lv' := [(6, .int (cdL EIOB EIAE E)), (5, .int (nI (4 * t))), (4, .ref bd), (3, .ref bo), (2, .ref (ad 0)), (1, .ref (Z.A 0 0)), (0, .ref b)]) hx hb dL_law_433 hl (by decide) rfl (fun ls hl => ?_)
    refine lv_aload_n hx hb dL_law_435 rfl (lv_at hl 4 rfl) ?_
    refine lv_aload_n hx hb dL_law_436 rfl (lv_at hl 6 rfl) ?_
    refine lv_iload hx hb dL_law_437 (lv_at hl 1 rfl) ?_
    refine lv_iconst (v := 1) hx hb dL_law_439 (by decide) ?_
    refine lv_iadd hx hb dL_law_440 ?_
    refine va_sld hx hb hX hbl hbA hI.2.2.1 hin1 dL_law_441 ?_
    rw [← ea1]
    refine lv_aload_n hx hb dL_law_442 rfl (lv_at hl 6 rfl) ?_
    refine lv_iload hx hb dL_law_443 (lv_at hl 1 rfl) ?_
    refine lv_iconst (v := 2) hx hb dL_law_445 (by decide) ?_
    refine lv_iadd hx hb dL_law_446 ?_
    refine va_sld hx hb hX hbl hbA hI.2.2.1 hin2 dL_law_447 ?_
    rw [← ea2]
    have hI2 := hI
    rw [← FW_m] at hI2
    refine jx_callV (rest := []) (as := [.int a1, .int a2]) hx hb hml hts hown hK hE Dj_m hI2 (cM_flood G ad M a1 a2 h.2.1.1) kLM_124 ⟨(Nat.le_of_ble_eq_true rfl), (Nat.le_of_ble_eq_true rfl)⟩ (kk := 4) (ii := 0) rfl rfl rfl hl.1 (Nat.le_of_ble_eq_true rfl) dL_law_448 ⟨by show cells + 3 + 0 ≤ 601024; omega, by show slots + 18 + 0 ≤ 7293034; omega⟩ (fun v w' H locs hp hI => ?_)
    obtain ⟨rfl, rfl⟩ := hp
    rw [FW_m] at hI
    refine lv_istore (lv' := [(7, .int (M_flood M a1 a2).1), (6, .int (cdL EIOB EIAE E)), (5, .int (nI (4 * t))), (4, .ref bd), (3, .ref bo), (2, .ref (ad 0)), (1, .ref (Z.A 0 0)), (0, .ref b)]) hx hb dL_law_451 hl (by decide) rfl (fun ls hl => ?_)
    refine lv_aload_n hx hb dL_law_453 rfl (lv_at hl 5 rfl) ?_
    have hI3 := hI
    rw [← FW_m] at hI3
    refine jx_callV (rest := []) (as := []) hx hb hml hts hown hK hE Dj_m hI3 (cM_thrown G ad (M_flood M a1 a2).2) kLM_107 ⟨(Nat.le_of_ble_eq_true rfl), (Nat.le_of_ble_eq_true rfl)⟩ (kk := 4) (ii := 0) rfl rfl rfl hl.1 (Nat.le_of_ble_eq_true rfl) dL_law_454 ⟨by show cells + 3 + 0 + 0 ≤ 601024; omega, by show slots + 18 + 0 + 0 ≤ 7293034; omega⟩ (fun v w' H locs hp hI => ?_)
    obtain ⟨rfl, rfl⟩ := hp
    rw [FW_m] at hI
    refine lv_iload (rest := [.int (M_thrown (M_flood M a1 a2).2)]) hx hb dL_law_457 (lv_at hl 1 rfl) ?_
    refine lv_icmp_eq (tgt := 464) hx hb dL_law_459 (by decide) (fun _ => ?_) (fun h0 => absurd s29 h0)
    refine lv_iload hx hb dL_law_464 (lv_at hl 1 rfl) ?_
    refine lv_if_ne (tgt := 481) hx hb dL_law_466 (by decide) (fun _ => ?_) (fun h0 => absurd h0 cdL_ne)
    refine lv_goto (tgt := 1899) hx hb dL_law_481 (by decide) ?_
    refine W.widen (k := cells + 5) (n := slots + 802) (by show cells + 3 + 0 + 0 ≤ cells + 5; omega) (by show slots + 18 + 0 + 0 ≤ slots + 802; omega) ?_
    exact K _ _ _ _ _ _ _ _ hR rfl hI (lv_sub hl [2, 3, 4, 5, 6, 7] rfl)
