theorem nI_3 (n : Nat) : (3 : Int32) * nI n = nI (3 * n) := by
  rw [show (3 : Int32) = nI 3 from rfl, nI_mul]
/-! ===== the law: what holds at its loop ===== -/
def LCtx (p : Program) (s : State) (m : MethodId) (c : Code) (b L : Nat) (xs : Nat → Int32) (G : GX) (A : Nat → Prop) : Prop :=
  p.tables.exec = Jvm.exec ∧ c.code = cL_law ∧ c.maxLocals = 14 ∧ (∀ w ∈ WL, w.before #[Value.ref b] s = true) ∧ s.vm.findClass "IcehighwayLaw" = some m.cls ∧ va_K G.2.2.1 vwCl (TYS G.2.2.2) s ∧ EV (G.2.1, G.2.2.2 5) A s s.heap ∧ va_X b L xs s s.heap ∧ b < s.heap.size ∧ ¬ A b ∧ G.1.stackTraces = false
set_option maxHeartbeats 8000000 in
set_option maxRecDepth 100000 in
theorem law_240 {p : Program} {e : Env} {s : State} {m : MethodId} {below : List Frame} {meth : Method} {c : Code} {b L : Nat} {xs : Nat → Int32} {Q : State → Prop} {G : GX} {A : Nat → Prop} (C0 : LCtx p s m c b L xs G A) (hL : L ≤ 260) {la : Nat → Nat} {x0 n : Nat} (hn : n < 64) {Z : XZ} {S : XS} {M : MS} {L0 : LwS} {H : Heap} {locs : List Loc} {ls : Array Slot} (hR : RR Z S M L0 (4 + n)) (hx0 : Z.A 0 0 = x0) (hI : fI G.2.2.1 A s.heap (jn (xW G.2.2.2 G.2.1 Z S) (lW G.2.2.2 la L0)) H locs) {what one two : Int32} (h0 : nB what 36) (h1 : nB one 60000) (h2 : nB two 60000) (hl : lv_has ls 14 [(13, .int two), (12, .int one), (11, .int what), (9, .int 1), (10, .int (nI n)), (0, .ref b), (1, .ref x0), (2, .ref (la 0)), (3, .ref (la 1)), (4, .ref (la 2)), (5, .ref (la 3)), (6, .ref (la 4)), (7, .ref (la 5)), (8, .ref (la 6))]) (K : ∀ (Z : XZ) (S : XS) (M : MS) (L0 : LwS) (H : Heap) (locs : List Loc) (ls : Array Slot), RR Z S M L0 (4 + n + 1) → Z.A 0 0 = x0 → fI G.2.2.1 A s.heap (jn (xW G.2.2.2 G.2.1 Z S) (lW G.2.2.2 la L0)) H locs → lv_has ls 14 [(9, .int 1), (10, .int (nI n)), (0, .ref b), (1, .ref x0), (2, .ref (la 0)), (3, .ref (la 1)), (4, .ref (la 2)), (5, .ref (la 3)), (6, .ref (la 4)), (7, .ref (la 5)), (8, .ref (la 6))] → W p G.1 e room_1 s m #[Value.ref b] below meth c H locs (1000 + 388 * n + 5) (10000 + 3100 * n + 802) Q (F0 m 455 ls [])) : W p G.1 e room_1 s m #[Value.ref b] below meth c H locs (1000 + 388 * n) (10000 + 3100 * n) Q (F0 m 240 ls []) := by
  obtain ⟨hx, hb, hml, hts, hown, hK, hE, hX, hbl, hbA, hst0⟩ := id C0
  rw [← hx0] at hl
  obtain ⟨a, rfl, ha⟩ := h0
  rcases (show a = 0 ∨ a = 1 ∨ a = 2 ∨ a = 3 ∨ a = 4 ∨ a = 5 ∨ a = 6 ∨ a = 7 ∨ a = 8 ∨ a = 9 ∨ a = 10 ∨ a = 11 ∨ a = 12 ∨ a = 13 ∨ a = 14 ∨ a = 15 ∨ a = 16 ∨ a = 17 ∨ a = 18 ∨ a = 19 ∨ a = 20 ∨ a = 21 ∨ a = 22 ∨ a = 23 ∨ a = 24 ∨ a = 25 ∨ a = 26 ∨ a = 27 ∨ a = 28 ∨ a = 29 ∨ a = 30 ∨ a = 31 ∨ a = 32 ∨ a = 33 ∨ a = 34 ∨ a = 35 by omega) with rfl | rfl | rfl | rfl | rfl | rfl | rfl | rfl | rfl | rfl | rfl | rfl | rfl | rfl | rfl | rfl | rfl | rfl | rfl | rfl | rfl | rfl | rfl | rfl | rfl | rfl | rfl | rfl | rfl | rfl | rfl | rfl | rfl | rfl | rfl | rfl
  · have hl : lv_has ls 14 [(13, .int two), (12, .int one), (11, .int 0), (9, .int 1), (10, .int (nI n)), (0, .ref b), (1, .ref (Z.A 0 0)), (2, .ref (la 0)), (3, .ref (la 1)), (4, .ref (la 2)), (5, .ref (la 3)), (6, .ref (la 4)), (7, .ref (la 5)), (8, .ref (la 6))] := hl
    refine lv_iload hx hb dL_law_240 (lv_at hl 2 rfl) ?_
    refine lv_iconst (v := 2) hx hb dL_law_242 (by decide) ?_
    refine lv_icmp_ge (tgt := 267) hx hb dL_law_243 (by decide) (fun h => absurd h (by decide)) (fun _ => ?_)
    refine lv_aload_n hx hb dL_law_246 rfl (lv_at hl 6 rfl) ?_
    refine lv_aload_n hx hb dL_law_247 rfl (lv_at hl 7 rfl) ?_
    refine lv_aload_n hx hb dL_law_248 rfl (lv_at hl 8 rfl) ?_
    refine lv_aload hx hb dL_law_249 (lv_at hl 9 rfl) ?_
    refine lv_aload hx hb dL_law_251 (lv_at hl 13 rfl) ?_
    refine lv_iload hx hb dL_law_253 (lv_at hl 2 rfl) ?_
    refine lv_iload hx hb dL_law_255 (lv_at hl 1 rfl) ?_
    refine lv_iload hx hb dL_law_257 (lv_at hl 0 rfl) ?_
    refine fx_callS (rest := []) (as := [.ref (Z.A 0 0), .ref (la 0), .ref (la 1), .ref (la 2), .ref (la 6), .int 0, .int one, .int two]) hx hb hml hts hown hK hE hI (qP_0 G hst0 hR (by omega) one two h1 h2) kw_169 ⟨(Nat.le_of_ble_eq_true rfl), (Nat.le_of_ble_eq_true rfl)⟩ hl.1 (Nat.le_of_ble_eq_true rfl) dL_law_259 ⟨by show 1000 + 388 * n + 5 ≤ 799779; omega, by show 10000 + 3100 * n + 802 ≤ 6702131; omega⟩ (fun v w9 H locs hp hI => ?_)
    obtain ⟨rfl, Z9, S9, M9, L9, hR9, hA9, rfl⟩ := hp
    refine lv_istore (lv' := [(9, .int 1), (13, .int two), (12, .int one), (11, .int 0), (10, .int (nI n)), (0, .ref b), (1, .ref (Z.A 0 0)), (2, .ref (la 0)), (3, .ref (la 1)), (4, .ref (la 2)), (5, .ref (la 3)), (6, .ref (la 4)), (7, .ref (la 5)), (8, .ref (la 6))]) hx hb dL_law_262 hl (by decide) rfl (fun ls hl => ?_)
    refine lv_goto (tgt := 455) hx hb dL_law_264 (by decide) ?_
    exact K Z9 S9 M9 L9 H locs ls hR9 (hA9.trans hx0) hI (by rw [← hx0]; exact lv_sub hl [0, 4, 5, 6, 7, 8, 9, 10, 11, 12, 13] rfl)
  · have hl : lv_has ls 14 [(13, .int two), (12, .int one), (11, .int 1), (9, .int 1), (10, .int (nI n)), (0, .ref b), (1, .ref (Z.A 0 0)), (2, .ref (la 0)), (3, .ref (la 1)), (4, .ref (la 2)), (5, .ref (la 3)), (6, .ref (la 4)), (7, .ref (la 5)), (8, .ref (la 6))] := hl
    refine lv_iload hx hb dL_law_240 (lv_at hl 2 rfl) ?_
    refine lv_iconst (v := 2) hx hb dL_law_242 (by decide) ?_
    refine lv_icmp_ge (tgt := 267) hx hb dL_law_243 (by decide) (fun h => absurd h (by decide)) (fun _ => ?_)
    refine lv_aload_n hx hb dL_law_246 rfl (lv_at hl 6 rfl) ?_
    refine lv_aload_n hx hb dL_law_247 rfl (lv_at hl 7 rfl) ?_
    refine lv_aload_n hx hb dL_law_248 rfl (lv_at hl 8 rfl) ?_
    refine lv_aload hx hb dL_law_249 (lv_at hl 9 rfl) ?_
    refine lv_aload hx hb dL_law_251 (lv_at hl 13 rfl) ?_
    refine lv_iload hx hb dL_law_253 (lv_at hl 2 rfl) ?_
    refine lv_iload hx hb dL_law_255 (lv_at hl 1 rfl) ?_
    refine lv_iload hx hb dL_law_257 (lv_at hl 0 rfl) ?_
    refine fx_callS (rest := []) (as := [.ref (Z.A 0 0), .ref (la 0), .ref (la 1), .ref (la 2), .ref (la 6), .int 1, .int one, .int two]) hx hb hml hts hown hK hE hI (qP_1 G hst0 hR (by omega) one two h1 h2) kw_169 ⟨(Nat.le_of_ble_eq_true rfl), (Nat.le_of_ble_eq_true rfl)⟩ hl.1 (Nat.le_of_ble_eq_true rfl) dL_law_259 ⟨by show 1000 + 388 * n + 5 ≤ 799779; omega, by show 10000 + 3100 * n + 802 ≤ 6702131; omega⟩ (fun v w9 H locs hp hI => ?_)
    obtain ⟨rfl, Z9, S9, M9, L9, hR9, hA9, rfl⟩ := hp
    refine lv_istore (lv' := [(9, .int 1), (13, .int two), (12, .int one), (11, .int 1), (10, .int (nI n)), (0, .ref b), (1, .ref (Z.A 0 0)), (2, .ref (la 0)), (3, .ref (la 1)), (4, .ref (la 2)), (5, .ref (la 3)), (6, .ref (la 4)), (7, .ref (la 5)), (8, .ref (la 6))]) hx hb dL_law_262 hl (by decide) rfl (fun ls hl => ?_)
    refine lv_goto (tgt := 455) hx hb dL_law_264 (by decide) ?_
    exact K Z9 S9 M9 L9 H locs ls hR9 (hA9.trans hx0) hI (by rw [← hx0]; exact lv_sub hl [0, 4, 5, 6, 7, 8, 9, 10, 11, 12, 13] rfl)
  · have hl : lv_has ls 14 [(13, .int two), (12, .int one), (11, .int 2), (9, .int 1), (10, .int (nI n)), (0, .ref b), (1, .ref (Z.A 0 0)), (2, .ref (la 0)), (3, .ref (la 1)), (4, .ref (la 2)), (5, .ref (la 3)), (6, .ref (la 4)), (7, .ref (la 5)), (8, .ref (la 6))] := hl
    refine lv_iload hx hb dL_law_240 (lv_at hl 2 rfl) ?_
    refine lv_iconst (v := 2) hx hb dL_law_242 (by decide) ?_
    refine lv_icmp_ge (tgt := 267) hx hb dL_law_243 (by decide) (fun _ => ?_) (fun h => absurd (by decide) h)
    refine lv_iload hx hb dL_law_267 (lv_at hl 2 rfl) ?_
    refine lv_bipush (v := 12) hx hb dL_law_269 (by decide) ?_
    refine lv_icmp_ge (tgt := 337) hx hb dL_law_271 (by decide) (fun h => absurd h (by decide)) (fun _ => ?_)
    refine lv_aload_n hx hb dL_law_274 rfl (lv_at hl 6 rfl) ?_
    refine lv_aload_n hx hb dL_law_275 rfl (lv_at hl 7 rfl) ?_
    refine lv_aload_n hx hb dL_law_276 rfl (lv_at hl 8 rfl) ?_
    refine lv_aload hx hb dL_law_277 (lv_at hl 9 rfl) ?_
    refine lv_aload hx hb dL_law_279 (lv_at hl 13 rfl) ?_
    refine lv_iload hx hb dL_law_281 (lv_at hl 2 rfl) ?_
    refine lv_iconst (v := 3) hx hb dL_law_283 (by decide) ?_
    refine lv_icmp_ge (tgt := 291) hx hb dL_law_284 (by decide) (fun h => absurd h (by decide)) (fun _ => ?_)
    refine lv_iconst (v := 2) hx hb dL_law_287 (by decide) ?_
    refine lv_goto (tgt := 325) hx hb dL_law_288 (by decide) ?_
    refine lv_iload hx hb dL_law_325 (lv_at hl 1 rfl) ?_
    refine lv_iload hx hb dL_law_327 (lv_at hl 0 rfl) ?_
    refine fx_callS (rest := []) (as := [.ref (Z.A 0 0), .ref (la 0), .ref (la 1), .ref (la 2), .ref (la 6), .int 2, .int one, .int two]) hx hb hml hts hown hK hE hI (qP_2 G hst0 hR (by omega) one two h1 h2) kw_169 ⟨(Nat.le_of_ble_eq_true rfl), (Nat.le_of_ble_eq_true rfl)⟩ hl.1 (Nat.le_of_ble_eq_true rfl) dL_law_329 ⟨by show 1000 + 388 * n + 5 ≤ 799779; omega, by show 10000 + 3100 * n + 802 ≤ 6702131; omega⟩ (fun v w9 H locs hp hI => ?_)
    obtain ⟨rfl, Z9, S9, M9, L9, hR9, hA9, rfl⟩ := hp
    refine lv_istore (lv' := [(9, .int 1), (13, .int two), (12, .int one), (11, .int 2), (10, .int (nI n)), (0, .ref b), (1, .ref (Z.A 0 0)), (2, .ref (la 0)), (3, .ref (la 1)), (4, .ref (la 2)), (5, .ref (la 3)), (6, .ref (la 4)), (7, .ref (la 5)), (8, .ref (la 6))]) hx hb dL_law_332 hl (by decide) rfl (fun ls hl => ?_)
    refine lv_goto (tgt := 455) hx hb dL_law_334 (by decide) ?_
    exact K Z9 S9 M9 L9 H locs ls hR9 (hA9.trans hx0) hI (by rw [← hx0]; exact lv_sub hl [0, 4, 5, 6, 7, 8, 9, 10, 11, 12, 13] rfl)
  · have hl : lv_has ls 14 [(13, .int two), (12, .int one), (11, .int 3), (9, .int 1), (10, .int (nI n)), (0, .ref b), (1, .ref (Z.A 0 0)), (2, .ref (la 0)), (3, .ref (la 1)), (4, .ref (la 2)), (5, .ref (la 3)), (6, .ref (la 4)), (7, .ref (la 5)), (8, .ref (la 6))] := hl
    refine lv_iload hx hb dL_law_240 (lv_at hl 2 rfl) ?_
    refine lv_iconst (v := 2) hx hb dL_law_242 (by decide) ?_
    refine lv_icmp_ge (tgt := 267) hx hb dL_law_243 (by decide) (fun _ => ?_) (fun h => absurd (by decide) h)
    refine lv_iload hx hb dL_law_267 (lv_at hl 2 rfl) ?_
    refine lv_bipush (v := 12) hx hb dL_law_269 (by decide) ?_
    refine lv_icmp_ge (tgt := 337) hx hb dL_law_271 (by decide) (fun h => absurd h (by decide)) (fun _ => ?_)
    refine lv_aload_n hx hb dL_law_274 rfl (lv_at hl 6 rfl) ?_
    refine lv_aload_n hx hb dL_law_275 rfl (lv_at hl 7 rfl) ?_
    refine lv_aload_n hx hb dL_law_276 rfl (lv_at hl 8 rfl) ?_
    refine lv_aload hx hb dL_law_277 (lv_at hl 9 rfl) ?_
    refine lv_aload hx hb dL_law_279 (lv_at hl 13 rfl) ?_
    refine lv_iload hx hb dL_law_281 (lv_at hl 2 rfl) ?_
    refine lv_iconst (v := 3) hx hb dL_law_283 (by decide) ?_
    refine lv_icmp_ge (tgt := 291) hx hb dL_law_284 (by decide) (fun _ => ?_) (fun h => absurd (by decide) h)
    refine lv_iload hx hb dL_law_291 (lv_at hl 2 rfl) ?_
    refine lv_iconst (v := 5) hx hb dL_law_293 (by decide) ?_
    refine lv_icmp_ge (tgt := 301) hx hb dL_law_294 (by decide) (fun h => absurd h (by decide)) (fun _ => ?_)
    refine lv_iconst (v := 3) hx hb dL_law_297 (by decide) ?_
    refine lv_goto (tgt := 325) hx hb dL_law_298 (by decide) ?_
    refine lv_iload hx hb dL_law_325 (lv_at hl 1 rfl) ?_
    refine lv_iload hx hb dL_law_327 (lv_at hl 0 rfl) ?_
    refine fx_callS (rest := []) (as := [.ref (Z.A 0 0), .ref (la 0), .ref (la 1), .ref (la 2), .ref (la 6), .int 3, .int one, .int two]) hx hb hml hts hown hK hE hI (qP_3 G hst0 hR (by omega) one two h1 h2) kw_169 ⟨(Nat.le_of_ble_eq_true rfl), (Nat.le_of_ble_eq_true rfl)⟩ hl.1 (Nat.le_of_ble_eq_true rfl) dL_law_329 ⟨by show 1000 + 388 * n + 5 ≤ 799779; omega, by show 10000 + 3100 * n + 802 ≤ 6702131; omega⟩ (fun v w9 H locs hp hI => ?_)
    obtain ⟨rfl, Z9, S9, M9, L9, hR9, hA9, rfl⟩ := hp
    refine lv_istore (lv' := [(9, .int 1), (13, .int two), (12, .int one), (11, .int 3), (10, .int (nI n)), (0, .ref b), (1, .ref (Z.A 0 0)), (2, .ref (la 0)), (3, .ref (la 1)), (4, .ref (la 2)), (5, .ref (la 3)), (6, .ref (la 4)), (7, .ref (la 5)), (8, .ref (la 6))]) hx hb dL_law_332 hl (by decide) rfl (fun ls hl => ?_)
    refine lv_goto (tgt := 455) hx hb dL_law_334 (by decide) ?_
    exact K Z9 S9 M9 L9 H locs ls hR9 (hA9.trans hx0) hI (by rw [← hx0]; exact lv_sub hl [0, 4, 5, 6, 7, 8, 9, 10, 11, 12, 13] rfl)
  · have hl : lv_has ls 14 [(13, .int two), (12, .int one), (11, .int 4), (9, .int 1), (10, .int (nI n)), (0, .ref b), (1, .ref (Z.A 0 0)), (2, .ref (la 0)), (3, .ref (la 1)), (4, .ref (la 2)), (5, .ref (la 3)), (6, .ref (la 4)), (7, .ref (la 5)), (8, .ref (la 6))] := hl
    refine lv_iload hx hb dL_law_240 (lv_at hl 2 rfl) ?_
    refine lv_iconst (v := 2) hx hb dL_law_242 (by decide) ?_
    refine lv_icmp_ge (tgt := 267) hx hb dL_law_243 (by decide) (fun _ => ?_) (fun h => absurd (by decide) h)
    refine lv_iload hx hb dL_law_267 (lv_at hl 2 rfl) ?_
    refine lv_bipush (v := 12) hx hb dL_law_269 (by decide) ?_
    refine lv_icmp_ge (tgt := 337) hx hb dL_law_271 (by decide) (fun h => absurd h (by decide)) (fun _ => ?_)
    refine lv_aload_n hx hb dL_law_274 rfl (lv_at hl 6 rfl) ?_
    refine lv_aload_n hx hb dL_law_275 rfl (lv_at hl 7 rfl) ?_
    refine lv_aload_n hx hb dL_law_276 rfl (lv_at hl 8 rfl) ?_
    refine lv_aload hx hb dL_law_277 (lv_at hl 9 rfl) ?_
    refine lv_aload hx hb dL_law_279 (lv_at hl 13 rfl) ?_
    refine lv_iload hx hb dL_law_281 (lv_at hl 2 rfl) ?_
    refine lv_iconst (v := 3) hx hb dL_law_283 (by decide) ?_
    refine lv_icmp_ge (tgt := 291) hx hb dL_law_284 (by decide) (fun _ => ?_) (fun h => absurd (by decide) h)
    refine lv_iload hx hb dL_law_291 (lv_at hl 2 rfl) ?_
    refine lv_iconst (v := 5) hx hb dL_law_293 (by decide) ?_
    refine lv_icmp_ge (tgt := 301) hx hb dL_law_294 (by decide) (fun h => absurd h (by decide)) (fun _ => ?_)
    refine lv_iconst (v := 3) hx hb dL_law_297 (by decide) ?_
    refine lv_goto (tgt := 325) hx hb dL_law_298 (by decide) ?_
    refine lv_iload hx hb dL_law_325 (lv_at hl 1 rfl) ?_
    refine lv_iload hx hb dL_law_327 (lv_at hl 0 rfl) ?_
    refine fx_callS (rest := []) (as := [.ref (Z.A 0 0), .ref (la 0), .ref (la 1), .ref (la 2), .ref (la 6), .int 3, .int one, .int two]) hx hb hml hts hown hK hE hI (qP_3 G hst0 hR (by omega) one two h1 h2) kw_169 ⟨(Nat.le_of_ble_eq_true rfl), (Nat.le_of_ble_eq_true rfl)⟩ hl.1 (Nat.le_of_ble_eq_true rfl) dL_law_329 ⟨by show 1000 + 388 * n + 5 ≤ 799779; omega, by show 10000 + 3100 * n + 802 ≤ 6702131; omega⟩ (fun v w9 H locs hp hI => ?_)
    obtain ⟨rfl, Z9, S9, M9, L9, hR9, hA9, rfl⟩ := hp
    refine lv_istore (lv' := [(9, .int 1), (13, .int two), (12, .int one), (11, .int 4), (10, .int (nI n)), (0, .ref b), (1, .ref (Z.A 0 0)), (2, .ref (la 0)), (3, .ref (la 1)), (4, .ref (la 2)), (5, .ref (la 3)), (6, .ref (la 4)), (7, .ref (la 5)), (8, .ref (la 6))]) hx hb dL_law_332 hl (by decide) rfl (fun ls hl => ?_)
    refine lv_goto (tgt := 455) hx hb dL_law_334 (by decide) ?_
    exact K Z9 S9 M9 L9 H locs ls hR9 (hA9.trans hx0) hI (by rw [← hx0]; exact lv_sub hl [0, 4, 5, 6, 7, 8, 9, 10, 11, 12, 13] rfl)
  · have hl : lv_has ls 14 [(13, .int two), (12, .int one), (11, .int 5), (9, .int 1), (10, .int (nI n)), (0, .ref b), (1, .ref (Z.A 0 0)), (2, .ref (la 0)), (3, .ref (la 1)), (4, .ref (la 2)), (5, .ref (la 3)), (6, .ref (la 4)), (7, .ref (la 5)), (8, .ref (la 6))] := hl
    refine lv_iload hx hb dL_law_240 (lv_at hl 2 rfl) ?_
    refine lv_iconst (v := 2) hx hb dL_law_242 (by decide) ?_
    refine lv_icmp_ge (tgt := 267) hx hb dL_law_243 (by decide) (fun _ => ?_) (fun h => absurd (by decide) h)
    refine lv_iload hx hb dL_law_267 (lv_at hl 2 rfl) ?_
    refine lv_bipush (v := 12) hx hb dL_law_269 (by decide) ?_
    refine lv_icmp_ge (tgt := 337) hx hb dL_law_271 (by decide) (fun h => absurd h (by decide)) (fun _ => ?_)
    refine lv_aload_n hx hb dL_law_274 rfl (lv_at hl 6 rfl) ?_
    refine lv_aload_n hx hb dL_law_275 rfl (lv_at hl 7 rfl) ?_
    refine lv_aload_n hx hb dL_law_276 rfl (lv_at hl 8 rfl) ?_
    refine lv_aload hx hb dL_law_277 (lv_at hl 9 rfl) ?_
    refine lv_aload hx hb dL_law_279 (lv_at hl 13 rfl) ?_
    refine lv_iload hx hb dL_law_281 (lv_at hl 2 rfl) ?_
    refine lv_iconst (v := 3) hx hb dL_law_283 (by decide) ?_
    refine lv_icmp_ge (tgt := 291) hx hb dL_law_284 (by decide) (fun _ => ?_) (fun h => absurd (by decide) h)
    refine lv_iload hx hb dL_law_291 (lv_at hl 2 rfl) ?_
    refine lv_iconst (v := 5) hx hb dL_law_293 (by decide) ?_
    refine lv_icmp_ge (tgt := 301) hx hb dL_law_294 (by decide) (fun _ => ?_) (fun h => absurd (by decide) h)
    refine lv_iload hx hb dL_law_301 (lv_at hl 2 rfl) ?_
    refine lv_bipush (v := 8) hx hb dL_law_303 (by decide) ?_
    refine lv_icmp_ge (tgt := 312) hx hb dL_law_305 (by decide) (fun h => absurd h (by decide)) (fun _ => ?_)
    refine lv_iconst (v := 4) hx hb dL_law_308 (by decide) ?_
    refine lv_goto (tgt := 325) hx hb dL_law_309 (by decide) ?_
    refine lv_iload hx hb dL_law_325 (lv_at hl 1 rfl) ?_
    refine lv_iload hx hb dL_law_327 (lv_at hl 0 rfl) ?_
    refine fx_callS (rest := []) (as := [.ref (Z.A 0 0), .ref (la 0), .ref (la 1), .ref (la 2), .ref (la 6), .int 4, .int one, .int two]) hx hb hml hts hown hK hE hI (qP_4 G hst0 hR (by omega) one two h1 h2) kw_169 ⟨(Nat.le_of_ble_eq_true rfl), (Nat.le_of_ble_eq_true rfl)⟩ hl.1 (Nat.le_of_ble_eq_true rfl) dL_law_329 ⟨by show 1000 + 388 * n + 5 ≤ 799779; omega, by show 10000 + 3100 * n + 802 ≤ 6702131; omega⟩ (fun v w9 H locs hp hI => ?_)
    obtain ⟨rfl, Z9, S9, M9, L9, hR9, hA9, rfl⟩ := hp
    refine lv_istore (lv' := [(9, .int 1), (13, .int two), (12, .int one), (11, .int 5), (10, .int (nI n)), (0, .ref b), (1, .ref (Z.A 0 0)), (2, .ref (la 0)), (3, .ref (la 1)), (4, .ref (la 2)), (5, .ref (la 3)), (6, .ref (la 4)), (7, .ref (la 5)), (8, .ref (la 6))]) hx hb dL_law_332 hl (by decide) rfl (fun ls hl => ?_)
    refine lv_goto (tgt := 455) hx hb dL_law_334 (by decide) ?_
    exact K Z9 S9 M9 L9 H locs ls hR9 (hA9.trans hx0) hI (by rw [← hx0]; exact lv_sub hl [0, 4, 5, 6, 7, 8, 9, 10, 11, 12, 13] rfl)
  · have hl : lv_has ls 14 [(13, .int two), (12, .int one), (11, .int 6), (9, .int 1), (10, .int (nI n)), (0, .ref b), (1, .ref (Z.A 0 0)), (2, .ref (la 0)), (3, .ref (la 1)), (4, .ref (la 2)), (5, .ref (la 3)), (6, .ref (la 4)), (7, .ref (la 5)), (8, .ref (la 6))] := hl
    refine lv_iload hx hb dL_law_240 (lv_at hl 2 rfl) ?_
    refine lv_iconst (v := 2) hx hb dL_law_242 (by decide) ?_
    refine lv_icmp_ge (tgt := 267) hx hb dL_law_243 (by decide) (fun _ => ?_) (fun h => absurd (by decide) h)
    refine lv_iload hx hb dL_law_267 (lv_at hl 2 rfl) ?_
    refine lv_bipush (v := 12) hx hb dL_law_269 (by decide) ?_
    refine lv_icmp_ge (tgt := 337) hx hb dL_law_271 (by decide) (fun h => absurd h (by decide)) (fun _ => ?_)
    refine lv_aload_n hx hb dL_law_274 rfl (lv_at hl 6 rfl) ?_
    refine lv_aload_n hx hb dL_law_275 rfl (lv_at hl 7 rfl) ?_
    refine lv_aload_n hx hb dL_law_276 rfl (lv_at hl 8 rfl) ?_
    refine lv_aload hx hb dL_law_277 (lv_at hl 9 rfl) ?_
    refine lv_aload hx hb dL_law_279 (lv_at hl 13 rfl) ?_
    refine lv_iload hx hb dL_law_281 (lv_at hl 2 rfl) ?_
    refine lv_iconst (v := 3) hx hb dL_law_283 (by decide) ?_
    refine lv_icmp_ge (tgt := 291) hx hb dL_law_284 (by decide) (fun _ => ?_) (fun h => absurd (by decide) h)
    refine lv_iload hx hb dL_law_291 (lv_at hl 2 rfl) ?_
    refine lv_iconst (v := 5) hx hb dL_law_293 (by decide) ?_
    refine lv_icmp_ge (tgt := 301) hx hb dL_law_294 (by decide) (fun _ => ?_) (fun h => absurd (by decide) h)
    refine lv_iload hx hb dL_law_301 (lv_at hl 2 rfl) ?_
    refine lv_bipush (v := 8) hx hb dL_law_303 (by decide) ?_
    refine lv_icmp_ge (tgt := 312) hx hb dL_law_305 (by decide) (fun h => absurd h (by decide)) (fun _ => ?_)
    refine lv_iconst (v := 4) hx hb dL_law_308 (by decide) ?_
    refine lv_goto (tgt := 325) hx hb dL_law_309 (by decide) ?_
    refine lv_iload hx hb dL_law_325 (lv_at hl 1 rfl) ?_
    refine lv_iload hx hb dL_law_327 (lv_at hl 0 rfl) ?_
    refine fx_callS (rest := []) (as := [.ref (Z.A 0 0), .ref (la 0), .ref (la 1), .ref (la 2), .ref (la 6), .int 4, .int one, .int two]) hx hb hml hts hown hK hE hI (qP_4 G hst0 hR (by omega) one two h1 h2) kw_169 ⟨(Nat.le_of_ble_eq_true rfl), (Nat.le_of_ble_eq_true rfl)⟩ hl.1 (Nat.le_of_ble_eq_true rfl) dL_law_329 ⟨by show 1000 + 388 * n + 5 ≤ 799779; omega, by show 10000 + 3100 * n + 802 ≤ 6702131; omega⟩ (fun v w9 H locs hp hI => ?_)
    obtain ⟨rfl, Z9, S9, M9, L9, hR9, hA9, rfl⟩ := hp
    refine lv_istore (lv' := [(9, .int 1), (13, .int two), (12, .int one), (11, .int 6), (10, .int (nI n)), (0, .ref b), (1, .ref (Z.A 0 0)), (2, .ref (la 0)), (3, .ref (la 1)), (4, .ref (la 2)), (5, .ref (la 3)), (6, .ref (la 4)), (7, .ref (la 5)), (8, .ref (la 6))]) hx hb dL_law_332 hl (by decide) rfl (fun ls hl => ?_)
    refine lv_goto (tgt := 455) hx hb dL_law_334 (by decide) ?_
    exact K Z9 S9 M9 L9 H locs ls hR9 (hA9.trans hx0) hI (by rw [← hx0]; exact lv_sub hl [0, 4, 5, 6, 7, 8, 9, 10, 11, 12, 13] rfl)
  · have hl : lv_has ls 14 [(13, .int two), (12, .int one), (11, .int 7), (9, .int 1), (10, .int (nI n)), (0, .ref b), (1, .ref (Z.A 0 0)), (2, .ref (la 0)), (3, .ref (la 1)), (4, .ref (la 2)), (5, .ref (la 3)), (6, .ref (la 4)), (7, .ref (la 5)), (8, .ref (la 6))] := hl
    refine lv_iload hx hb dL_law_240 (lv_at hl 2 rfl) ?_
    refine lv_iconst (v := 2) hx hb dL_law_242 (by decide) ?_
    refine lv_icmp_ge (tgt := 267) hx hb dL_law_243 (by decide) (fun _ => ?_) (fun h => absurd (by decide) h)
    refine lv_iload hx hb dL_law_267 (lv_at hl 2 rfl) ?_
    refine lv_bipush (v := 12) hx hb dL_law_269 (by decide) ?_
    refine lv_icmp_ge (tgt := 337) hx hb dL_law_271 (by decide) (fun h => absurd h (by decide)) (fun _ => ?_)
    refine lv_aload_n hx hb dL_law_274 rfl (lv_at hl 6 rfl) ?_
    refine lv_aload_n hx hb dL_law_275 rfl (lv_at hl 7 rfl) ?_
    refine lv_aload_n hx hb dL_law_276 rfl (lv_at hl 8 rfl) ?_
    refine lv_aload hx hb dL_law_277 (lv_at hl 9 rfl) ?_
    refine lv_aload hx hb dL_law_279 (lv_at hl 13 rfl) ?_
    refine lv_iload hx hb dL_law_281 (lv_at hl 2 rfl) ?_
    refine lv_iconst (v := 3) hx hb dL_law_283 (by decide) ?_
    refine lv_icmp_ge (tgt := 291) hx hb dL_law_284 (by decide) (fun _ => ?_) (fun h => absurd (by decide) h)
    refine lv_iload hx hb dL_law_291 (lv_at hl 2 rfl) ?_
    refine lv_iconst (v := 5) hx hb dL_law_293 (by decide) ?_
    refine lv_icmp_ge (tgt := 301) hx hb dL_law_294 (by decide) (fun _ => ?_) (fun h => absurd (by decide) h)
    refine lv_iload hx hb dL_law_301 (lv_at hl 2 rfl) ?_
    refine lv_bipush (v := 8) hx hb dL_law_303 (by decide) ?_
    refine lv_icmp_ge (tgt := 312) hx hb dL_law_305 (by decide) (fun h => absurd h (by decide)) (fun _ => ?_)
    refine lv_iconst (v := 4) hx hb dL_law_308 (by decide) ?_
    refine lv_goto (tgt := 325) hx hb dL_law_309 (by decide) ?_
    refine lv_iload hx hb dL_law_325 (lv_at hl 1 rfl) ?_
    refine lv_iload hx hb dL_law_327 (lv_at hl 0 rfl) ?_
    refine fx_callS (rest := []) (as := [.ref (Z.A 0 0), .ref (la 0), .ref (la 1), .ref (la 2), .ref (la 6), .int 4, .int one, .int two]) hx hb hml hts hown hK hE hI (qP_4 G hst0 hR (by omega) one two h1 h2) kw_169 ⟨(Nat.le_of_ble_eq_true rfl), (Nat.le_of_ble_eq_true rfl)⟩ hl.1 (Nat.le_of_ble_eq_true rfl) dL_law_329 ⟨by show 1000 + 388 * n + 5 ≤ 799779; omega, by show 10000 + 3100 * n + 802 ≤ 6702131; omega⟩ (fun v w9 H locs hp hI => ?_)
    obtain ⟨rfl, Z9, S9, M9, L9, hR9, hA9, rfl⟩ := hp
    refine lv_istore (lv' := [(9, .int 1), (13, .int two), (12, .int one), (11, .int 7), (10, .int (nI n)), (0, .ref b), (1, .ref (Z.A 0 0)), (2, .ref (la 0)), (3, .ref (la 1)), (4, .ref (la 2)), (5, .ref (la 3)), (6, .ref (la 4)), (7, .ref (la 5)), (8, .ref (la 6))]) hx hb dL_law_332 hl (by decide) rfl (fun ls hl => ?_)
    refine lv_goto (tgt := 455) hx hb dL_law_334 (by decide) ?_
    exact K Z9 S9 M9 L9 H locs ls hR9 (hA9.trans hx0) hI (by rw [← hx0]; exact lv_sub hl [0, 4, 5, 6, 7, 8, 9, 10, 11, 12, 13] rfl)
  · have hl : lv_has ls 14 [(13, .int two), (12, .int one), (11, .int 8), (9, .int 1), (10, .int (nI n)), (0, .ref b), (1, .ref (Z.A 0 0)), (2, .ref (la 0)), (3, .ref (la 1)), (4, .ref (la 2)), (5, .ref (la 3)), (6, .ref (la 4)), (7, .ref (la 5)), (8, .ref (la 6))] := hl
    refine lv_iload hx hb dL_law_240 (lv_at hl 2 rfl) ?_
    refine lv_iconst (v := 2) hx hb dL_law_242 (by decide) ?_
    refine lv_icmp_ge (tgt := 267) hx hb dL_law_243 (by decide) (fun _ => ?_) (fun h => absurd (by decide) h)
    refine lv_iload hx hb dL_law_267 (lv_at hl 2 rfl) ?_
    refine lv_bipush (v := 12) hx hb dL_law_269 (by decide) ?_
    refine lv_icmp_ge (tgt := 337) hx hb dL_law_271 (by decide) (fun h => absurd h (by decide)) (fun _ => ?_)
    refine lv_aload_n hx hb dL_law_274 rfl (lv_at hl 6 rfl) ?_
    refine lv_aload_n hx hb dL_law_275 rfl (lv_at hl 7 rfl) ?_
    refine lv_aload_n hx hb dL_law_276 rfl (lv_at hl 8 rfl) ?_
    refine lv_aload hx hb dL_law_277 (lv_at hl 9 rfl) ?_
    refine lv_aload hx hb dL_law_279 (lv_at hl 13 rfl) ?_
    refine lv_iload hx hb dL_law_281 (lv_at hl 2 rfl) ?_
    refine lv_iconst (v := 3) hx hb dL_law_283 (by decide) ?_
    refine lv_icmp_ge (tgt := 291) hx hb dL_law_284 (by decide) (fun _ => ?_) (fun h => absurd (by decide) h)
    refine lv_iload hx hb dL_law_291 (lv_at hl 2 rfl) ?_
    refine lv_iconst (v := 5) hx hb dL_law_293 (by decide) ?_
    refine lv_icmp_ge (tgt := 301) hx hb dL_law_294 (by decide) (fun _ => ?_) (fun h => absurd (by decide) h)
    refine lv_iload hx hb dL_law_301 (lv_at hl 2 rfl) ?_
    refine lv_bipush (v := 8) hx hb dL_law_303 (by decide) ?_
    refine lv_icmp_ge (tgt := 312) hx hb dL_law_305 (by decide) (fun _ => ?_) (fun h => absurd (by decide) h)
    refine lv_iload hx hb dL_law_312 (lv_at hl 2 rfl) ?_
    refine lv_bipush (v := 11) hx hb dL_law_314 (by decide) ?_
    refine lv_icmp_ge (tgt := 323) hx hb dL_law_316 (by decide) (fun h => absurd h (by decide)) (fun _ => ?_)
    refine lv_iconst (v := 5) hx hb dL_law_319 (by decide) ?_
    refine lv_goto (tgt := 325) hx hb dL_law_320 (by decide) ?_
    refine lv_iload hx hb dL_law_325 (lv_at hl 1 rfl) ?_
    refine lv_iload hx hb dL_law_327 (lv_at hl 0 rfl) ?_
    refine fx_callS (rest := []) (as := [.ref (Z.A 0 0), .ref (la 0), .ref (la 1), .ref (la 2), .ref (la 6), .int 5, .int one, .int two]) hx hb hml hts hown hK hE hI (qP_5 G hst0 hR (by omega) one two h1 h2) kw_169 ⟨(Nat.le_of_ble_eq_true rfl), (Nat.le_of_ble_eq_true rfl)⟩ hl.1 (Nat.le_of_ble_eq_true rfl) dL_law_329 ⟨by show 1000 + 388 * n + 5 ≤ 799779; omega, by show 10000 + 3100 * n + 802 ≤ 6702131; omega⟩ (fun v w9 H locs hp hI => ?_)
    obtain ⟨rfl, Z9, S9, M9, L9, hR9, hA9, rfl⟩ := hp
    refine lv_istore (lv' := [(9, .int 1), (13, .int two), (12, .int one), (11, .int 8), (10, .int (nI n)), (0, .ref b), (1, .ref (Z.A 0 0)), (2, .ref (la 0)), (3, .ref (la 1)), (4, .ref (la 2)), (5, .ref (la 3)), (6, .ref (la 4)), (7, .ref (la 5)), (8, .ref (la 6))]) hx hb dL_law_332 hl (by decide) rfl (fun ls hl => ?_)
    refine lv_goto (tgt := 455) hx hb dL_law_334 (by decide) ?_
    exact K Z9 S9 M9 L9 H locs ls hR9 (hA9.trans hx0) hI (by rw [← hx0]; exact lv_sub hl [0, 4, 5, 6, 7, 8, 9, 10, 11, 12, 13] rfl)
  · have hl : lv_has ls 14 [(13, .int two), (12, .int one), (11, .int 9), (9, .int 1), (10, .int (nI n)), (0, .ref b), (1, .ref (Z.A 0 0)), (2, .ref (la 0)), (3, .ref (la 1)), (4, .ref (la 2)), (5, .ref (la 3)), (6, .ref (la 4)), (7, .ref (la 5)), (8, .ref (la 6))] := hl
    refine lv_iload hx hb dL_law_240 (lv_at hl 2 rfl) ?_
    refine lv_iconst (v := 2) hx hb dL_law_242 (by decide) ?_
    refine lv_icmp_ge (tgt := 267) hx hb dL_law_243 (by decide) (fun _ => ?_) (fun h => absurd (by decide) h)
    refine lv_iload hx hb dL_law_267 (lv_at hl 2 rfl) ?_
    refine lv_bipush (v := 12) hx hb dL_law_269 (by decide) ?_
    refine lv_icmp_ge (tgt := 337) hx hb dL_law_271 (by decide) (fun h => absurd h (by decide)) (fun _ => ?_)
    refine lv_aload_n hx hb dL_law_274 rfl (lv_at hl 6 rfl) ?_
    refine lv_aload_n hx hb dL_law_275 rfl (lv_at hl 7 rfl) ?_
    refine lv_aload_n hx hb dL_law_276 rfl (lv_at hl 8 rfl) ?_
    refine lv_aload hx hb dL_law_277 (lv_at hl 9 rfl) ?_
    refine lv_aload hx hb dL_law_279 (lv_at hl 13 rfl) ?_
    refine lv_iload hx hb dL_law_281 (lv_at hl 2 rfl) ?_
    refine lv_iconst (v := 3) hx hb dL_law_283 (by decide) ?_
    refine lv_icmp_ge (tgt := 291) hx hb dL_law_284 (by decide) (fun _ => ?_) (fun h => absurd (by decide) h)
    refine lv_iload hx hb dL_law_291 (lv_at hl 2 rfl) ?_
    refine lv_iconst (v := 5) hx hb dL_law_293 (by decide) ?_
    refine lv_icmp_ge (tgt := 301) hx hb dL_law_294 (by decide) (fun _ => ?_) (fun h => absurd (by decide) h)
    refine lv_iload hx hb dL_law_301 (lv_at hl 2 rfl) ?_
    refine lv_bipush (v := 8) hx hb dL_law_303 (by decide) ?_
    refine lv_icmp_ge (tgt := 312) hx hb dL_law_305 (by decide) (fun _ => ?_) (fun h => absurd (by decide) h)
    refine lv_iload hx hb dL_law_312 (lv_at hl 2 rfl) ?_
    refine lv_bipush (v := 11) hx hb dL_law_314 (by decide) ?_
    refine lv_icmp_ge (tgt := 323) hx hb dL_law_316 (by decide) (fun h => absurd h (by decide)) (fun _ => ?_)
    refine lv_iconst (v := 5) hx hb dL_law_319 (by decide) ?_
    refine lv_goto (tgt := 325) hx hb dL_law_320 (by decide) ?_
    refine lv_iload hx hb dL_law_325 (lv_at hl 1 rfl) ?_
    refine lv_iload hx hb dL_law_327 (lv_at hl 0 rfl) ?_
    refine fx_callS (rest := []) (as := [.ref (Z.A 0 0), .ref (la 0), .ref (la 1), .ref (la 2), .ref (la 6), .int 5, .int one, .int two]) hx hb hml hts hown hK hE hI (qP_5 G hst0 hR (by omega) one two h1 h2) kw_169 ⟨(Nat.le_of_ble_eq_true rfl), (Nat.le_of_ble_eq_true rfl)⟩ hl.1 (Nat.le_of_ble_eq_true rfl) dL_law_329 ⟨by show 1000 + 388 * n + 5 ≤ 799779; omega, by show 10000 + 3100 * n + 802 ≤ 6702131; omega⟩ (fun v w9 H locs hp hI => ?_)
    obtain ⟨rfl, Z9, S9, M9, L9, hR9, hA9, rfl⟩ := hp
    refine lv_istore (lv' := [(9, .int 1), (13, .int two), (12, .int one), (11, .int 9), (10, .int (nI n)), (0, .ref b), (1, .ref (Z.A 0 0)), (2, .ref (la 0)), (3, .ref (la 1)), (4, .ref (la 2)), (5, .ref (la 3)), (6, .ref (la 4)), (7, .ref (la 5)), (8, .ref (la 6))]) hx hb dL_law_332 hl (by decide) rfl (fun ls hl => ?_)
    refine lv_goto (tgt := 455) hx hb dL_law_334 (by decide) ?_
    exact K Z9 S9 M9 L9 H locs ls hR9 (hA9.trans hx0) hI (by rw [← hx0]; exact lv_sub hl [0, 4, 5, 6, 7, 8, 9, 10, 11, 12, 13] rfl)
  · have hl : lv_has ls 14 [(13, .int two), (12, .int one), (11, .int 10), (9, .int 1), (10, .int (nI n)), (0, .ref b), (1, .ref (Z.A 0 0)), (2, .ref (la 0)), (3, .ref (la 1)), (4, .ref (la 2)), (5, .ref (la 3)), (6, .ref (la 4)), (7, .ref (la 5)), (8, .ref (la 6))] := hl
    refine lv_iload hx hb dL_law_240 (lv_at hl 2 rfl) ?_
    refine lv_iconst (v := 2) hx hb dL_law_242 (by decide) ?_
    refine lv_icmp_ge (tgt := 267) hx hb dL_law_243 (by decide) (fun _ => ?_) (fun h => absurd (by decide) h)
    refine lv_iload hx hb dL_law_267 (lv_at hl 2 rfl) ?_
    refine lv_bipush (v := 12) hx hb dL_law_269 (by decide) ?_
    refine lv_icmp_ge (tgt := 337) hx hb dL_law_271 (by decide) (fun h => absurd h (by decide)) (fun _ => ?_)
    refine lv_aload_n hx hb dL_law_274 rfl (lv_at hl 6 rfl) ?_
    refine lv_aload_n hx hb dL_law_275 rfl (lv_at hl 7 rfl) ?_
    refine lv_aload_n hx hb dL_law_276 rfl (lv_at hl 8 rfl) ?_
    refine lv_aload hx hb dL_law_277 (lv_at hl 9 rfl) ?_
    refine lv_aload hx hb dL_law_279 (lv_at hl 13 rfl) ?_
    refine lv_iload hx hb dL_law_281 (lv_at hl 2 rfl) ?_
    refine lv_iconst (v := 3) hx hb dL_law_283 (by decide) ?_
    refine lv_icmp_ge (tgt := 291) hx hb dL_law_284 (by decide) (fun _ => ?_) (fun h => absurd (by decide) h)
    refine lv_iload hx hb dL_law_291 (lv_at hl 2 rfl) ?_
    refine lv_iconst (v := 5) hx hb dL_law_293 (by decide) ?_
    refine lv_icmp_ge (tgt := 301) hx hb dL_law_294 (by decide) (fun _ => ?_) (fun h => absurd (by decide) h)
    refine lv_iload hx hb dL_law_301 (lv_at hl 2 rfl) ?_
    refine lv_bipush (v := 8) hx hb dL_law_303 (by decide) ?_
    refine lv_icmp_ge (tgt := 312) hx hb dL_law_305 (by decide) (fun _ => ?_) (fun h => absurd (by decide) h)
    refine lv_iload hx hb dL_law_312 (lv_at hl 2 rfl) ?_
    refine lv_bipush (v := 11) hx hb dL_law_314 (by decide) ?_
    refine lv_icmp_ge (tgt := 323) hx hb dL_law_316 (by decide) (fun h => absurd h (by decide)) (fun _ => ?_)
    refine lv_iconst (v := 5) hx hb dL_law_319 (by decide) ?_
    refine lv_goto (tgt := 325) hx hb dL_law_320 (by decide) ?_
    refine lv_iload hx hb dL_law_325 (lv_at hl 1 rfl) ?_
    refine lv_iload hx hb dL_law_327 (lv_at hl 0 rfl) ?_
    refine fx_callS (rest := []) (as := [.ref (Z.A 0 0), .ref (la 0), .ref (la 1), .ref (la 2), .ref (la 6), .int 5, .int one, .int two]) hx hb hml hts hown hK hE hI (qP_5 G hst0 hR (by omega) one two h1 h2) kw_169 ⟨(Nat.le_of_ble_eq_true rfl), (Nat.le_of_ble_eq_true rfl)⟩ hl.1 (Nat.le_of_ble_eq_true rfl) dL_law_329 ⟨by show 1000 + 388 * n + 5 ≤ 799779; omega, by show 10000 + 3100 * n + 802 ≤ 6702131; omega⟩ (fun v w9 H locs hp hI => ?_)
    obtain ⟨rfl, Z9, S9, M9, L9, hR9, hA9, rfl⟩ := hp
    refine lv_istore (lv' := [(9, .int 1), (13, .int two), (12, .int one), (11, .int 10), (10, .int (nI n)), (0, .ref b), (1, .ref (Z.A 0 0)), (2, .ref (la 0)), (3, .ref (la 1)), (4, .ref (la 2)), (5, .ref (la 3)), (6, .ref (la 4)), (7, .ref (la 5)), (8, .ref (la 6))]) hx hb dL_law_332 hl (by decide) rfl (fun ls hl => ?_)
    refine lv_goto (tgt := 455) hx hb dL_law_334 (by decide) ?_
    exact K Z9 S9 M9 L9 H locs ls hR9 (hA9.trans hx0) hI (by rw [← hx0]; exact lv_sub hl [0, 4, 5, 6, 7, 8, 9, 10, 11, 12, 13] rfl)
  · have hl : lv_has ls 14 [(13, .int two), (12, .int one), (11, .int 11), (9, .int 1), (10, .int (nI n)), (0, .ref b), (1, .ref (Z.A 0 0)), (2, .ref (la 0)), (3, .ref (la 1)), (4, .ref (la 2)), (5, .ref (la 3)), (6, .ref (la 4)), (7, .ref (la 5)), (8, .ref (la 6))] := hl
    refine lv_iload hx hb dL_law_240 (lv_at hl 2 rfl) ?_
    refine lv_iconst (v := 2) hx hb dL_law_242 (by decide) ?_
    refine lv_icmp_ge (tgt := 267) hx hb dL_law_243 (by decide) (fun _ => ?_) (fun h => absurd (by decide) h)
    refine lv_iload hx hb dL_law_267 (lv_at hl 2 rfl) ?_
    refine lv_bipush (v := 12) hx hb dL_law_269 (by decide) ?_
    refine lv_icmp_ge (tgt := 337) hx hb dL_law_271 (by decide) (fun h => absurd h (by decide)) (fun _ => ?_)
    refine lv_aload_n hx hb dL_law_274 rfl (lv_at hl 6 rfl) ?_
    refine lv_aload_n hx hb dL_law_275 rfl (lv_at hl 7 rfl) ?_
    refine lv_aload_n hx hb dL_law_276 rfl (lv_at hl 8 rfl) ?_
    refine lv_aload hx hb dL_law_277 (lv_at hl 9 rfl) ?_
    refine lv_aload hx hb dL_law_279 (lv_at hl 13 rfl) ?_
    refine lv_iload hx hb dL_law_281 (lv_at hl 2 rfl) ?_
    refine lv_iconst (v := 3) hx hb dL_law_283 (by decide) ?_
    refine lv_icmp_ge (tgt := 291) hx hb dL_law_284 (by decide) (fun _ => ?_) (fun h => absurd (by decide) h)
    refine lv_iload hx hb dL_law_291 (lv_at hl 2 rfl) ?_
    refine lv_iconst (v := 5) hx hb dL_law_293 (by decide) ?_
    refine lv_icmp_ge (tgt := 301) hx hb dL_law_294 (by decide) (fun _ => ?_) (fun h => absurd (by decide) h)
    refine lv_iload hx hb dL_law_301 (lv_at hl 2 rfl) ?_
    refine lv_bipush (v := 8) hx hb dL_law_303 (by decide) ?_
    refine lv_icmp_ge (tgt := 312) hx hb dL_law_305 (by decide) (fun _ => ?_) (fun h => absurd (by decide) h)
    refine lv_iload hx hb dL_law_312 (lv_at hl 2 rfl) ?_
    refine lv_bipush (v := 11) hx hb dL_law_314 (by decide) ?_
    refine lv_icmp_ge (tgt := 323) hx hb dL_law_316 (by decide) (fun _ => ?_) (fun h => absurd (by decide) h)
    refine lv_bipush (v := 6) hx hb dL_law_323 (by decide) ?_
    refine lv_iload hx hb dL_law_325 (lv_at hl 1 rfl) ?_
    refine lv_iload hx hb dL_law_327 (lv_at hl 0 rfl) ?_
    refine fx_callS (rest := []) (as := [.ref (Z.A 0 0), .ref (la 0), .ref (la 1), .ref (la 2), .ref (la 6), .int 6, .int one, .int two]) hx hb hml hts hown hK hE hI (qP_6 G hst0 hR (by omega) one two h1 h2) kw_169 ⟨(Nat.le_of_ble_eq_true rfl), (Nat.le_of_ble_eq_true rfl)⟩ hl.1 (Nat.le_of_ble_eq_true rfl) dL_law_329 ⟨by show 1000 + 388 * n + 5 ≤ 799779; omega, by show 10000 + 3100 * n + 802 ≤ 6702131; omega⟩ (fun v w9 H locs hp hI => ?_)
    obtain ⟨rfl, Z9, S9, M9, L9, hR9, hA9, rfl⟩ := hp
    refine lv_istore (lv' := [(9, .int 1), (13, .int two), (12, .int one), (11, .int 11), (10, .int (nI n)), (0, .ref b), (1, .ref (Z.A 0 0)), (2, .ref (la 0)), (3, .ref (la 1)), (4, .ref (la 2)), (5, .ref (la 3)), (6, .ref (la 4)), (7, .ref (la 5)), (8, .ref (la 6))]) hx hb dL_law_332 hl (by decide) rfl (fun ls hl => ?_)
    refine lv_goto (tgt := 455) hx hb dL_law_334 (by decide) ?_
    exact K Z9 S9 M9 L9 H locs ls hR9 (hA9.trans hx0) hI (by rw [← hx0]; exact lv_sub hl [0, 4, 5, 6, 7, 8, 9, 10, 11, 12, 13] rfl)
  · have hl : lv_has ls 14 [(13, .int two), (12, .int one), (11, .int 12), (9, .int 1), (10, .int (nI n)), (0, .ref b), (1, .ref (Z.A 0 0)), (2, .ref (la 0)), (3, .ref (la 1)), (4, .ref (la 2)), (5, .ref (la 3)), (6, .ref (la 4)), (7, .ref (la 5)), (8, .ref (la 6))] := hl
    refine lv_iload hx hb dL_law_240 (lv_at hl 2 rfl) ?_
    refine lv_iconst (v := 2) hx hb dL_law_242 (by decide) ?_
    refine lv_icmp_ge (tgt := 267) hx hb dL_law_243 (by decide) (fun _ => ?_) (fun h => absurd (by decide) h)
    refine lv_iload hx hb dL_law_267 (lv_at hl 2 rfl) ?_
    refine lv_bipush (v := 12) hx hb dL_law_269 (by decide) ?_
    refine lv_icmp_ge (tgt := 337) hx hb dL_law_271 (by decide) (fun _ => ?_) (fun h => absurd (by decide) h)
    refine lv_iload hx hb dL_law_337 (lv_at hl 2 rfl) ?_
    refine lv_bipush (v := 24) hx hb dL_law_339 (by decide) ?_
    refine lv_icmp_ge (tgt := 399) hx hb dL_law_341 (by decide) (fun h => absurd h (by decide)) (fun _ => ?_)
    refine lv_aload_n hx hb dL_law_344 rfl (lv_at hl 6 rfl) ?_
    refine lv_aload hx hb dL_law_345 (lv_at hl 10 rfl) ?_
    refine lv_aload hx hb dL_law_347 (lv_at hl 11 rfl) ?_
    refine lv_aload hx hb dL_law_349 (lv_at hl 12 rfl) ?_
    refine lv_aload hx hb dL_law_351 (lv_at hl 13 rfl) ?_
    refine lv_iload hx hb dL_law_353 (lv_at hl 2 rfl) ?_
    refine lv_bipush (v := 12) hx hb dL_law_355 (by decide) ?_
    refine lv_icmp_ne (tgt := 364) hx hb dL_law_357 (by decide) (fun h => absurd (by decide) h) (fun _ => ?_)
    refine lv_iconst (v := 0) hx hb dL_law_360 (by decide) ?_
    refine lv_goto (tgt := 387) hx hb dL_law_361 (by decide) ?_
    refine lv_iload hx hb dL_law_387 (lv_at hl 1 rfl) ?_
    refine lv_iload hx hb dL_law_389 (lv_at hl 0 rfl) ?_
    refine fx_callS (rest := []) (as := [.ref (Z.A 0 0), .ref (la 3), .ref (la 4), .ref (la 5), .ref (la 6), .int 0, .int one, .int two]) hx hb hml hts hown hK hE hI (qV_0 G hst0 hR (by omega) one two h1 h2) kw_173 ⟨(Nat.le_of_ble_eq_true rfl), (Nat.le_of_ble_eq_true rfl)⟩ hl.1 (Nat.le_of_ble_eq_true rfl) dL_law_391 ⟨by show 1000 + 388 * n + 5 ≤ 799779; omega, by show 10000 + 3100 * n + 802 ≤ 6702131; omega⟩ (fun v w9 H locs hp hI => ?_)
    obtain ⟨rfl, Z9, S9, M9, L9, hR9, hA9, rfl⟩ := hp
    refine lv_istore (lv' := [(9, .int 1), (13, .int two), (12, .int one), (11, .int 12), (10, .int (nI n)), (0, .ref b), (1, .ref (Z.A 0 0)), (2, .ref (la 0)), (3, .ref (la 1)), (4, .ref (la 2)), (5, .ref (la 3)), (6, .ref (la 4)), (7, .ref (la 5)), (8, .ref (la 6))]) hx hb dL_law_394 hl (by decide) rfl (fun ls hl => ?_)
    refine lv_goto (tgt := 455) hx hb dL_law_396 (by decide) ?_
    exact K Z9 S9 M9 L9 H locs ls hR9 (hA9.trans hx0) hI (by rw [← hx0]; exact lv_sub hl [0, 4, 5, 6, 7, 8, 9, 10, 11, 12, 13] rfl)
  · have hl : lv_has ls 14 [(13, .int two), (12, .int one), (11, .int 13), (9, .int 1), (10, .int (nI n)), (0, .ref b), (1, .ref (Z.A 0 0)), (2, .ref (la 0)), (3, .ref (la 1)), (4, .ref (la 2)), (5, .ref (la 3)), (6, .ref (la 4)), (7, .ref (la 5)), (8, .ref (la 6))] := hl
    refine lv_iload hx hb dL_law_240 (lv_at hl 2 rfl) ?_
    refine lv_iconst (v := 2) hx hb dL_law_242 (by decide) ?_
    refine lv_icmp_ge (tgt := 267) hx hb dL_law_243 (by decide) (fun _ => ?_) (fun h => absurd (by decide) h)
    refine lv_iload hx hb dL_law_267 (lv_at hl 2 rfl) ?_
    refine lv_bipush (v := 12) hx hb dL_law_269 (by decide) ?_
    refine lv_icmp_ge (tgt := 337) hx hb dL_law_271 (by decide) (fun _ => ?_) (fun h => absurd (by decide) h)
    refine lv_iload hx hb dL_law_337 (lv_at hl 2 rfl) ?_
    refine lv_bipush (v := 24) hx hb dL_law_339 (by decide) ?_
    refine lv_icmp_ge (tgt := 399) hx hb dL_law_341 (by decide) (fun h => absurd h (by decide)) (fun _ => ?_)
    refine lv_aload_n hx hb dL_law_344 rfl (lv_at hl 6 rfl) ?_
    refine lv_aload hx hb dL_law_345 (lv_at hl 10 rfl) ?_
    refine lv_aload hx hb dL_law_347 (lv_at hl 11 rfl) ?_
    refine lv_aload hx hb dL_law_349 (lv_at hl 12 rfl) ?_
    refine lv_aload hx hb dL_law_351 (lv_at hl 13 rfl) ?_
    refine lv_iload hx hb dL_law_353 (lv_at hl 2 rfl) ?_
    refine lv_bipush (v := 12) hx hb dL_law_355 (by decide) ?_
    refine lv_icmp_ne (tgt := 364) hx hb dL_law_357 (by decide) (fun _ => ?_) (fun h => absurd h (by decide))
    refine lv_iload hx hb dL_law_364 (lv_at hl 2 rfl) ?_
    refine lv_bipush (v := 16) hx hb dL_law_366 (by decide) ?_
    refine lv_icmp_ge (tgt := 375) hx hb dL_law_368 (by decide) (fun h => absurd h (by decide)) (fun _ => ?_)
    refine lv_iconst (v := 1) hx hb dL_law_371 (by decide) ?_
    refine lv_goto (tgt := 387) hx hb dL_law_372 (by decide) ?_
    refine lv_iload hx hb dL_law_387 (lv_at hl 1 rfl) ?_
    refine lv_iload hx hb dL_law_389 (lv_at hl 0 rfl) ?_
    refine fx_callS (rest := []) (as := [.ref (Z.A 0 0), .ref (la 3), .ref (la 4), .ref (la 5), .ref (la 6), .int 1, .int one, .int two]) hx hb hml hts hown hK hE hI (qV_1 G hst0 hR (by omega) one two h1 h2) kw_173 ⟨(Nat.le_of_ble_eq_true rfl), (Nat.le_of_ble_eq_true rfl)⟩ hl.1 (Nat.le_of_ble_eq_true rfl) dL_law_391 ⟨by show 1000 + 388 * n + 5 ≤ 799779; omega, by show 10000 + 3100 * n + 802 ≤ 6702131; omega⟩ (fun v w9 H locs hp hI => ?_)
    obtain ⟨rfl, Z9, S9, M9, L9, hR9, hA9, rfl⟩ := hp
    refine lv_istore (lv' := [(9, .int 1), (13, .int two), (12, .int one), (11, .int 13), (10, .int (nI n)), (0, .ref b), (1, .ref (Z.A 0 0)), (2, .ref (la 0)), (3, .ref (la 1)), (4, .ref (la 2)), (5, .ref (la 3)), (6, .ref (la 4)), (7, .ref (la 5)), (8, .ref (la 6))]) hx hb dL_law_394 hl (by decide) rfl (fun ls hl => ?_)
    refine lv_goto (tgt := 455) hx hb dL_law_396 (by decide) ?_
    exact K Z9 S9 M9 L9 H locs ls hR9 (hA9.trans hx0) hI (by rw [← hx0]; exact lv_sub hl [0, 4, 5, 6, 7, 8, 9, 10, 11, 12, 13] rfl)
  · have hl : lv_has ls 14 [(13, .int two), (12, .int one), (11, .int 14), (9, .int 1), (10, .int (nI n)), (0, .ref b), (1, .ref (Z.A 0 0)), (2, .ref (la 0)), (3, .ref (la 1)), (4, .ref (la 2)), (5, .ref (la 3)), (6, .ref (la 4)), (7, .ref (la 5)), (8, .ref (la 6))] := hl
    refine lv_iload hx hb dL_law_240 (lv_at hl 2 rfl) ?_
    refine lv_iconst (v := 2) hx hb dL_law_242 (by decide) ?_
    refine lv_icmp_ge (tgt := 267) hx hb dL_law_243 (by decide) (fun _ => ?_) (fun h => absurd (by decide) h)
    refine lv_iload hx hb dL_law_267 (lv_at hl 2 rfl) ?_
    refine lv_bipush (v := 12) hx hb dL_law_269 (by decide) ?_
    refine lv_icmp_ge (tgt := 337) hx hb dL_law_271 (by decide) (fun _ => ?_) (fun h => absurd (by decide) h)
    refine lv_iload hx hb dL_law_337 (lv_at hl 2 rfl) ?_
    refine lv_bipush (v := 24) hx hb dL_law_339 (by decide) ?_
    refine lv_icmp_ge (tgt := 399) hx hb dL_law_341 (by decide) (fun h => absurd h (by decide)) (fun _ => ?_)
    refine lv_aload_n hx hb dL_law_344 rfl (lv_at hl 6 rfl) ?_
    refine lv_aload hx hb dL_law_345 (lv_at hl 10 rfl) ?_
    refine lv_aload hx hb dL_law_347 (lv_at hl 11 rfl) ?_
    refine lv_aload hx hb dL_law_349 (lv_at hl 12 rfl) ?_
    refine lv_aload hx hb dL_law_351 (lv_at hl 13 rfl) ?_
    refine lv_iload hx hb dL_law_353 (lv_at hl 2 rfl) ?_
    refine lv_bipush (v := 12) hx hb dL_law_355 (by decide) ?_
    refine lv_icmp_ne (tgt := 364) hx hb dL_law_357 (by decide) (fun _ => ?_) (fun h => absurd h (by decide))
    refine lv_iload hx hb dL_law_364 (lv_at hl 2 rfl) ?_
    refine lv_bipush (v := 16) hx hb dL_law_366 (by decide) ?_
    refine lv_icmp_ge (tgt := 375) hx hb dL_law_368 (by decide) (fun h => absurd h (by decide)) (fun _ => ?_)
    refine lv_iconst (v := 1) hx hb dL_law_371 (by decide) ?_
    refine lv_goto (tgt := 387) hx hb dL_law_372 (by decide) ?_
    refine lv_iload hx hb dL_law_387 (lv_at hl 1 rfl) ?_
    refine lv_iload hx hb dL_law_389 (lv_at hl 0 rfl) ?_
    refine fx_callS (rest := []) (as := [.ref (Z.A 0 0), .ref (la 3), .ref (la 4), .ref (la 5), .ref (la 6), .int 1, .int one, .int two]) hx hb hml hts hown hK hE hI (qV_1 G hst0 hR (by omega) one two h1 h2) kw_173 ⟨(Nat.le_of_ble_eq_true rfl), (Nat.le_of_ble_eq_true rfl)⟩ hl.1 (Nat.le_of_ble_eq_true rfl) dL_law_391 ⟨by show 1000 + 388 * n + 5 ≤ 799779; omega, by show 10000 + 3100 * n + 802 ≤ 6702131; omega⟩ (fun v w9 H locs hp hI => ?_)
    obtain ⟨rfl, Z9, S9, M9, L9, hR9, hA9, rfl⟩ := hp
    refine lv_istore (lv' := [(9, .int 1), (13, .int two), (12, .int one), (11, .int 14), (10, .int (nI n)), (0, .ref b), (1, .ref (Z.A 0 0)), (2, .ref (la 0)), (3, .ref (la 1)), (4, .ref (la 2)), (5, .ref (la 3)), (6, .ref (la 4)), (7, .ref (la 5)), (8, .ref (la 6))]) hx hb dL_law_394 hl (by decide) rfl (fun ls hl => ?_)
    refine lv_goto (tgt := 455) hx hb dL_law_396 (by decide) ?_
    exact K Z9 S9 M9 L9 H locs ls hR9 (hA9.trans hx0) hI (by rw [← hx0]; exact lv_sub hl [0, 4, 5, 6, 7, 8, 9, 10, 11, 12, 13] rfl)
  · have hl : lv_has ls 14 [(13, .int two), (12, .int one), (11, .int 15), (9, .int 1), (10, .int (nI n)), (0, .ref b), (1, .ref (Z.A 0 0)), (2, .ref (la 0)), (3, .ref (la 1)), (4, .ref (la 2)), (5, .ref (la 3)), (6, .ref (la 4)), (7, .ref (la 5)), (8, .ref (la 6))] := hl
    refine lv_iload hx hb dL_law_240 (lv_at hl 2 rfl) ?_
    refine lv_iconst (v := 2) hx hb dL_law_242 (by decide) ?_
    refine lv_icmp_ge (tgt := 267) hx hb dL_law_243 (by decide) (fun _ => ?_) (fun h => absurd (by decide) h)
    refine lv_iload hx hb dL_law_267 (lv_at hl 2 rfl) ?_
    refine lv_bipush (v := 12) hx hb dL_law_269 (by decide) ?_
    refine lv_icmp_ge (tgt := 337) hx hb dL_law_271 (by decide) (fun _ => ?_) (fun h => absurd (by decide) h)
    refine lv_iload hx hb dL_law_337 (lv_at hl 2 rfl) ?_
    refine lv_bipush (v := 24) hx hb dL_law_339 (by decide) ?_
    refine lv_icmp_ge (tgt := 399) hx hb dL_law_341 (by decide) (fun h => absurd h (by decide)) (fun _ => ?_)
    refine lv_aload_n hx hb dL_law_344 rfl (lv_at hl 6 rfl) ?_
    refine lv_aload hx hb dL_law_345 (lv_at hl 10 rfl) ?_
    refine lv_aload hx hb dL_law_347 (lv_at hl 11 rfl) ?_
    refine lv_aload hx hb dL_law_349 (lv_at hl 12 rfl) ?_
    refine lv_aload hx hb dL_law_351 (lv_at hl 13 rfl) ?_
    refine lv_iload hx hb dL_law_353 (lv_at hl 2 rfl) ?_
    refine lv_bipush (v := 12) hx hb dL_law_355 (by decide) ?_
    refine lv_icmp_ne (tgt := 364) hx hb dL_law_357 (by decide) (fun _ => ?_) (fun h => absurd h (by decide))
    refine lv_iload hx hb dL_law_364 (lv_at hl 2 rfl) ?_
    refine lv_bipush (v := 16) hx hb dL_law_366 (by decide) ?_
    refine lv_icmp_ge (tgt := 375) hx hb dL_law_368 (by decide) (fun h => absurd h (by decide)) (fun _ => ?_)
    refine lv_iconst (v := 1) hx hb dL_law_371 (by decide) ?_
    refine lv_goto (tgt := 387) hx hb dL_law_372 (by decide) ?_
    refine lv_iload hx hb dL_law_387 (lv_at hl 1 rfl) ?_
    refine lv_iload hx hb dL_law_389 (lv_at hl 0 rfl) ?_
    refine fx_callS (rest := []) (as := [.ref (Z.A 0 0), .ref (la 3), .ref (la 4), .ref (la 5), .ref (la 6), .int 1, .int one, .int two]) hx hb hml hts hown hK hE hI (qV_1 G hst0 hR (by omega) one two h1 h2) kw_173 ⟨(Nat.le_of_ble_eq_true rfl), (Nat.le_of_ble_eq_true rfl)⟩ hl.1 (Nat.le_of_ble_eq_true rfl) dL_law_391 ⟨by show 1000 + 388 * n + 5 ≤ 799779; omega, by show 10000 + 3100 * n + 802 ≤ 6702131; omega⟩ (fun v w9 H locs hp hI => ?_)
    obtain ⟨rfl, Z9, S9, M9, L9, hR9, hA9, rfl⟩ := hp
    refine lv_istore (lv' := [(9, .int 1), (13, .int two), (12, .int one), (11, .int 15), (10, .int (nI n)), (0, .ref b), (1, .ref (Z.A 0 0)), (2, .ref (la 0)), (3, .ref (la 1)), (4, .ref (la 2)), (5, .ref (la 3)), (6, .ref (la 4)), (7, .ref (la 5)), (8, .ref (la 6))]) hx hb dL_law_394 hl (by decide) rfl (fun ls hl => ?_)
    refine lv_goto (tgt := 455) hx hb dL_law_396 (by decide) ?_
    exact K Z9 S9 M9 L9 H locs ls hR9 (hA9.trans hx0) hI (by rw [← hx0]; exact lv_sub hl [0, 4, 5, 6, 7, 8, 9, 10, 11, 12, 13] rfl)
  · have hl : lv_has ls 14 [(13, .int two), (12, .int one), (11, .int 16), (9, .int 1), (10, .int (nI n)), (0, .ref b), (1, .ref (Z.A 0 0)), (2, .ref (la 0)), (3, .ref (la 1)), (4, .ref (la 2)), (5, .ref (la 3)), (6, .ref (la 4)), (7, .ref (la 5)), (8, .ref (la 6))] := hl
    refine lv_iload hx hb dL_law_240 (lv_at hl 2 rfl) ?_
    refine lv_iconst (v := 2) hx hb dL_law_242 (by decide) ?_
    refine lv_icmp_ge (tgt := 267) hx hb dL_law_243 (by decide) (fun _ => ?_) (fun h => absurd (by decide) h)
    refine lv_iload hx hb dL_law_267 (lv_at hl 2 rfl) ?_
    refine lv_bipush (v := 12) hx hb dL_law_269 (by decide) ?_
    refine lv_icmp_ge (tgt := 337) hx hb dL_law_271 (by decide) (fun _ => ?_) (fun h => absurd (by decide) h)
    refine lv_iload hx hb dL_law_337 (lv_at hl 2 rfl) ?_
    refine lv_bipush (v := 24) hx hb dL_law_339 (by decide) ?_
    refine lv_icmp_ge (tgt := 399) hx hb dL_law_341 (by decide) (fun h => absurd h (by decide)) (fun _ => ?_)
    refine lv_aload_n hx hb dL_law_344 rfl (lv_at hl 6 rfl) ?_
    refine lv_aload hx hb dL_law_345 (lv_at hl 10 rfl) ?_
    refine lv_aload hx hb dL_law_347 (lv_at hl 11 rfl) ?_
    refine lv_aload hx hb dL_law_349 (lv_at hl 12 rfl) ?_
    refine lv_aload hx hb dL_law_351 (lv_at hl 13 rfl) ?_
    refine lv_iload hx hb dL_law_353 (lv_at hl 2 rfl) ?_
    refine lv_bipush (v := 12) hx hb dL_law_355 (by decide) ?_
    refine lv_icmp_ne (tgt := 364) hx hb dL_law_357 (by decide) (fun _ => ?_) (fun h => absurd h (by decide))
    refine lv_iload hx hb dL_law_364 (lv_at hl 2 rfl) ?_
    refine lv_bipush (v := 16) hx hb dL_law_366 (by decide) ?_
    refine lv_icmp_ge (tgt := 375) hx hb dL_law_368 (by decide) (fun _ => ?_) (fun h => absurd (by decide) h)
    refine lv_iload hx hb dL_law_375 (lv_at hl 2 rfl) ?_
    refine lv_bipush (v := 22) hx hb dL_law_377 (by decide) ?_
    refine lv_icmp_ge (tgt := 386) hx hb dL_law_379 (by decide) (fun h => absurd h (by decide)) (fun _ => ?_)
    refine lv_iconst (v := 2) hx hb dL_law_382 (by decide) ?_
    refine lv_goto (tgt := 387) hx hb dL_law_383 (by decide) ?_
    refine lv_iload hx hb dL_law_387 (lv_at hl 1 rfl) ?_
    refine lv_iload hx hb dL_law_389 (lv_at hl 0 rfl) ?_
    refine fx_callS (rest := []) (as := [.ref (Z.A 0 0), .ref (la 3), .ref (la 4), .ref (la 5), .ref (la 6), .int 2, .int one, .int two]) hx hb hml hts hown hK hE hI (qV_2 G hst0 hR (by omega) one two h1 h2) kw_173 ⟨(Nat.le_of_ble_eq_true rfl), (Nat.le_of_ble_eq_true rfl)⟩ hl.1 (Nat.le_of_ble_eq_true rfl) dL_law_391 ⟨by show 1000 + 388 * n + 5 ≤ 799779; omega, by show 10000 + 3100 * n + 802 ≤ 6702131; omega⟩ (fun v w9 H locs hp hI => ?_)
    obtain ⟨rfl, Z9, S9, M9, L9, hR9, hA9, rfl⟩ := hp
    refine lv_istore (lv' := [(9, .int 1), (13, .int two), (12, .int one), (11, .int 16), (10, .int (nI n)), (0, .ref b), (1, .ref (Z.A 0 0)), (2, .ref (la 0)), (3, .ref (la 1)), (4, .ref (la 2)), (5, .ref (la 3)), (6, .ref (la 4)), (7, .ref (la 5)), (8, .ref (la 6))]) hx hb dL_law_394 hl (by decide) rfl (fun ls hl => ?_)
    refine lv_goto (tgt := 455) hx hb dL_law_396 (by decide) ?_
    exact K Z9 S9 M9 L9 H locs ls hR9 (hA9.trans hx0) hI (by rw [← hx0]; exact lv_sub hl [0, 4, 5, 6, 7, 8, 9, 10, 11, 12, 13] rfl)
  · have hl : lv_has ls 14 [(13, .int two), (12, .int one), (11, .int 17), (9, .int 1), (10, .int (nI n)), (0, .ref b), (1, .ref (Z.A 0 0)), (2, .ref (la 0)), (3, .ref (la 1)), (4, .ref (la 2)), (5, .ref (la 3)), (6, .ref (la 4)), (7, .ref (la 5)), (8, .ref (la 6))] := hl
    refine lv_iload hx hb dL_law_240 (lv_at hl 2 rfl) ?_
    refine lv_iconst (v := 2) hx hb dL_law_242 (by decide) ?_
    refine lv_icmp_ge (tgt := 267) hx hb dL_law_243 (by decide) (fun _ => ?_) (fun h => absurd (by decide) h)
    refine lv_iload hx hb dL_law_267 (lv_at hl 2 rfl) ?_
    refine lv_bipush (v := 12) hx hb dL_law_269 (by decide) ?_
    refine lv_icmp_ge (tgt := 337) hx hb dL_law_271 (by decide) (fun _ => ?_) (fun h => absurd (by decide) h)
    refine lv_iload hx hb dL_law_337 (lv_at hl 2 rfl) ?_
    refine lv_bipush (v := 24) hx hb dL_law_339 (by decide) ?_
    refine lv_icmp_ge (tgt := 399) hx hb dL_law_341 (by decide) (fun h => absurd h (by decide)) (fun _ => ?_)
    refine lv_aload_n hx hb dL_law_344 rfl (lv_at hl 6 rfl) ?_
    refine lv_aload hx hb dL_law_345 (lv_at hl 10 rfl) ?_
    refine lv_aload hx hb dL_law_347 (lv_at hl 11 rfl) ?_
    refine lv_aload hx hb dL_law_349 (lv_at hl 12 rfl) ?_
    refine lv_aload hx hb dL_law_351 (lv_at hl 13 rfl) ?_
    refine lv_iload hx hb dL_law_353 (lv_at hl 2 rfl) ?_
    refine lv_bipush (v := 12) hx hb dL_law_355 (by decide) ?_
    refine lv_icmp_ne (tgt := 364) hx hb dL_law_357 (by decide) (fun _ => ?_) (fun h => absurd h (by decide))
    refine lv_iload hx hb dL_law_364 (lv_at hl 2 rfl) ?_
    refine lv_bipush (v := 16) hx hb dL_law_366 (by decide) ?_
    refine lv_icmp_ge (tgt := 375) hx hb dL_law_368 (by decide) (fun _ => ?_) (fun h => absurd (by decide) h)
    refine lv_iload hx hb dL_law_375 (lv_at hl 2 rfl) ?_
    refine lv_bipush (v := 22) hx hb dL_law_377 (by decide) ?_
    refine lv_icmp_ge (tgt := 386) hx hb dL_law_379 (by decide) (fun h => absurd h (by decide)) (fun _ => ?_)
    refine lv_iconst (v := 2) hx hb dL_law_382 (by decide) ?_
    refine lv_goto (tgt := 387) hx hb dL_law_383 (by decide) ?_
    refine lv_iload hx hb dL_law_387 (lv_at hl 1 rfl) ?_
    refine lv_iload hx hb dL_law_389 (lv_at hl 0 rfl) ?_
    refine fx_callS (rest := []) (as := [.ref (Z.A 0 0), .ref (la 3), .ref (la 4), .ref (la 5), .ref (la 6), .int 2, .int one, .int two]) hx hb hml hts hown hK hE hI (qV_2 G hst0 hR (by omega) one two h1 h2) kw_173 ⟨(Nat.le_of_ble_eq_true rfl), (Nat.le_of_ble_eq_true rfl)⟩ hl.1 (Nat.le_of_ble_eq_true rfl) dL_law_391 ⟨by show 1000 + 388 * n + 5 ≤ 799779; omega, by show 10000 + 3100 * n + 802 ≤ 6702131; omega⟩ (fun v w9 H locs hp hI => ?_)
    obtain ⟨rfl, Z9, S9, M9, L9, hR9, hA9, rfl⟩ := hp
    refine lv_istore (lv' := [(9, .int 1), (13, .int two), (12, .int one), (11, .int 17), (10, .int (nI n)), (0, .ref b), (1, .ref (Z.A 0 0)), (2, .ref (la 0)), (3, .ref (la 1)), (4, .ref (la 2)), (5, .ref (la 3)), (6, .ref (la 4)), (7, .ref (la 5)), (8, .ref (la 6))]) hx hb dL_law_394 hl (by decide) rfl (fun ls hl => ?_)
    refine lv_goto (tgt := 455) hx hb dL_law_396 (by decide) ?_
    exact K Z9 S9 M9 L9 H locs ls hR9 (hA9.trans hx0) hI (by rw [← hx0]; exact lv_sub hl [0, 4, 5, 6, 7, 8, 9, 10, 11, 12, 13] rfl)
  · have hl : lv_has ls 14 [(13, .int two), (12, .int one), (11, .int 18), (9, .int 1), (10, .int (nI n)), (0, .ref b), (1, .ref (Z.A 0 0)), (2, .ref (la 0)), (3, .ref (la 1)), (4, .ref (la 2)), (5, .ref (la 3)), (6, .ref (la 4)), (7, .ref (la 5)), (8, .ref (la 6))] := hl
    refine lv_iload hx hb dL_law_240 (lv_at hl 2 rfl) ?_
    refine lv_iconst (v := 2) hx hb dL_law_242 (by decide) ?_
    refine lv_icmp_ge (tgt := 267) hx hb dL_law_243 (by decide) (fun _ => ?_) (fun h => absurd (by decide) h)
    refine lv_iload hx hb dL_law_267 (lv_at hl 2 rfl) ?_
    refine lv_bipush (v := 12) hx hb dL_law_269 (by decide) ?_
    refine lv_icmp_ge (tgt := 337) hx hb dL_law_271 (by decide) (fun _ => ?_) (fun h => absurd (by decide) h)
    refine lv_iload hx hb dL_law_337 (lv_at hl 2 rfl) ?_
    refine lv_bipush (v := 24) hx hb dL_law_339 (by decide) ?_
    refine lv_icmp_ge (tgt := 399) hx hb dL_law_341 (by decide) (fun h => absurd h (by decide)) (fun _ => ?_)
    refine lv_aload_n hx hb dL_law_344 rfl (lv_at hl 6 rfl) ?_
    refine lv_aload hx hb dL_law_345 (lv_at hl 10 rfl) ?_
    refine lv_aload hx hb dL_law_347 (lv_at hl 11 rfl) ?_
    refine lv_aload hx hb dL_law_349 (lv_at hl 12 rfl) ?_
    refine lv_aload hx hb dL_law_351 (lv_at hl 13 rfl) ?_
    refine lv_iload hx hb dL_law_353 (lv_at hl 2 rfl) ?_
    refine lv_bipush (v := 12) hx hb dL_law_355 (by decide) ?_
    refine lv_icmp_ne (tgt := 364) hx hb dL_law_357 (by decide) (fun _ => ?_) (fun h => absurd h (by decide))
    refine lv_iload hx hb dL_law_364 (lv_at hl 2 rfl) ?_
    refine lv_bipush (v := 16) hx hb dL_law_366 (by decide) ?_
    refine lv_icmp_ge (tgt := 375) hx hb dL_law_368 (by decide) (fun _ => ?_) (fun h => absurd (by decide) h)
    refine lv_iload hx hb dL_law_375 (lv_at hl 2 rfl) ?_
    refine lv_bipush (v := 22) hx hb dL_law_377 (by decide) ?_
    refine lv_icmp_ge (tgt := 386) hx hb dL_law_379 (by decide) (fun h => absurd h (by decide)) (fun _ => ?_)
    refine lv_iconst (v := 2) hx hb dL_law_382 (by decide) ?_
    refine lv_goto (tgt := 387) hx hb dL_law_383 (by decide) ?_
    refine lv_iload hx hb dL_law_387 (lv_at hl 1 rfl) ?_
    refine lv_iload hx hb dL_law_389 (lv_at hl 0 rfl) ?_
    refine fx_callS (rest := []) (as := [.ref (Z.A 0 0), .ref (la 3), .ref (la 4), .ref (la 5), .ref (la 6), .int 2, .int one, .int two]) hx hb hml hts hown hK hE hI (qV_2 G hst0 hR (by omega) one two h1 h2) kw_173 ⟨(Nat.le_of_ble_eq_true rfl), (Nat.le_of_ble_eq_true rfl)⟩ hl.1 (Nat.le_of_ble_eq_true rfl) dL_law_391 ⟨by show 1000 + 388 * n + 5 ≤ 799779; omega, by show 10000 + 3100 * n + 802 ≤ 6702131; omega⟩ (fun v w9 H locs hp hI => ?_)
    obtain ⟨rfl, Z9, S9, M9, L9, hR9, hA9, rfl⟩ := hp
    refine lv_istore (lv' := [(9, .int 1), (13, .int two), (12, .int one), (11, .int 18), (10, .int (nI n)), (0, .ref b), (1, .ref (Z.A 0 0)), (2, .ref (la 0)), (3, .ref (la 1)), (4, .ref (la 2)), (5, .ref (la 3)), (6, .ref (la 4)), (7, .ref (la 5)), (8, .ref (la 6))]) hx hb dL_law_394 hl (by decide) rfl (fun ls hl => ?_)
    refine lv_goto (tgt := 455) hx hb dL_law_396 (by decide) ?_
    exact K Z9 S9 M9 L9 H locs ls hR9 (hA9.trans hx0) hI (by rw [← hx0]; exact lv_sub hl [0, 4, 5, 6, 7, 8, 9, 10, 11, 12, 13] rfl)
  · have hl : lv_has ls 14 [(13, .int two), (12, .int one), (11, .int 19), (9, .int 1), (10, .int (nI n)), (0, .ref b), (1, .ref (Z.A 0 0)), (2, .ref (la 0)), (3, .ref (la 1)), (4, .ref (la 2)), (5, .ref (la 3)), (6, .ref (la 4)), (7, .ref (la 5)), (8, .ref (la 6))] := hl
    refine lv_iload hx hb dL_law_240 (lv_at hl 2 rfl) ?_
    refine lv_iconst (v := 2) hx hb dL_law_242 (by decide) ?_
    refine lv_icmp_ge (tgt := 267) hx hb dL_law_243 (by decide) (fun _ => ?_) (fun h => absurd (by decide) h)
    refine lv_iload hx hb dL_law_267 (lv_at hl 2 rfl) ?_
    refine lv_bipush (v := 12) hx hb dL_law_269 (by decide) ?_
    refine lv_icmp_ge (tgt := 337) hx hb dL_law_271 (by decide) (fun _ => ?_) (fun h => absurd (by decide) h)
    refine lv_iload hx hb dL_law_337 (lv_at hl 2 rfl) ?_
    refine lv_bipush (v := 24) hx hb dL_law_339 (by decide) ?_
    refine lv_icmp_ge (tgt := 399) hx hb dL_law_341 (by decide) (fun h => absurd h (by decide)) (fun _ => ?_)
    refine lv_aload_n hx hb dL_law_344 rfl (lv_at hl 6 rfl) ?_
    refine lv_aload hx hb dL_law_345 (lv_at hl 10 rfl) ?_
    refine lv_aload hx hb dL_law_347 (lv_at hl 11 rfl) ?_
    refine lv_aload hx hb dL_law_349 (lv_at hl 12 rfl) ?_
    refine lv_aload hx hb dL_law_351 (lv_at hl 13 rfl) ?_
    refine lv_iload hx hb dL_law_353 (lv_at hl 2 rfl) ?_
    refine lv_bipush (v := 12) hx hb dL_law_355 (by decide) ?_
    refine lv_icmp_ne (tgt := 364) hx hb dL_law_357 (by decide) (fun _ => ?_) (fun h => absurd h (by decide))
    refine lv_iload hx hb dL_law_364 (lv_at hl 2 rfl) ?_
    refine lv_bipush (v := 16) hx hb dL_law_366 (by decide) ?_
    refine lv_icmp_ge (tgt := 375) hx hb dL_law_368 (by decide) (fun _ => ?_) (fun h => absurd (by decide) h)
    refine lv_iload hx hb dL_law_375 (lv_at hl 2 rfl) ?_
    refine lv_bipush (v := 22) hx hb dL_law_377 (by decide) ?_
    refine lv_icmp_ge (tgt := 386) hx hb dL_law_379 (by decide) (fun h => absurd h (by decide)) (fun _ => ?_)
    refine lv_iconst (v := 2) hx hb dL_law_382 (by decide) ?_
    refine lv_goto (tgt := 387) hx hb dL_law_383 (by decide) ?_
    refine lv_iload hx hb dL_law_387 (lv_at hl 1 rfl) ?_
    refine lv_iload hx hb dL_law_389 (lv_at hl 0 rfl) ?_
    refine fx_callS (rest := []) (as := [.ref (Z.A 0 0), .ref (la 3), .ref (la 4), .ref (la 5), .ref (la 6), .int 2, .int one, .int two]) hx hb hml hts hown hK hE hI (qV_2 G hst0 hR (by omega) one two h1 h2) kw_173 ⟨(Nat.le_of_ble_eq_true rfl), (Nat.le_of_ble_eq_true rfl)⟩ hl.1 (Nat.le_of_ble_eq_true rfl) dL_law_391 ⟨by show 1000 + 388 * n + 5 ≤ 799779; omega, by show 10000 + 3100 * n + 802 ≤ 6702131; omega⟩ (fun v w9 H locs hp hI => ?_)
    obtain ⟨rfl, Z9, S9, M9, L9, hR9, hA9, rfl⟩ := hp
    refine lv_istore (lv' := [(9, .int 1), (13, .int two), (12, .int one), (11, .int 19), (10, .int (nI n)), (0, .ref b), (1, .ref (Z.A 0 0)), (2, .ref (la 0)), (3, .ref (la 1)), (4, .ref (la 2)), (5, .ref (la 3)), (6, .ref (la 4)), (7, .ref (la 5)), (8, .ref (la 6))]) hx hb dL_law_394 hl (by decide) rfl (fun ls hl => ?_)
    refine lv_goto (tgt := 455) hx hb dL_law_396 (by decide) ?_
    exact K Z9 S9 M9 L9 H locs ls hR9 (hA9.trans hx0) hI (by rw [← hx0]; exact lv_sub hl [0, 4, 5, 6, 7, 8, 9, 10, 11, 12, 13] rfl)
  · have hl : lv_has ls 14 [(13, .int two), (12, .int one), (11, .int 20), (9, .int 1), (10, .int (nI n)), (0, .ref b), (1, .ref (Z.A 0 0)), (2, .ref (la 0)), (3, .ref (la 1)), (4, .ref (la 2)), (5, .ref (la 3)), (6, .ref (la 4)), (7, .ref (la 5)), (8, .ref (la 6))] := hl
    refine lv_iload hx hb dL_law_240 (lv_at hl 2 rfl) ?_
    refine lv_iconst (v := 2) hx hb dL_law_242 (by decide) ?_
    refine lv_icmp_ge (tgt := 267) hx hb dL_law_243 (by decide) (fun _ => ?_) (fun h => absurd (by decide) h)
    refine lv_iload hx hb dL_law_267 (lv_at hl 2 rfl) ?_
    refine lv_bipush (v := 12) hx hb dL_law_269 (by decide) ?_
    refine lv_icmp_ge (tgt := 337) hx hb dL_law_271 (by decide) (fun _ => ?_) (fun h => absurd (by decide) h)
    refine lv_iload hx hb dL_law_337 (lv_at hl 2 rfl) ?_
    refine lv_bipush (v := 24) hx hb dL_law_339 (by decide) ?_
    refine lv_icmp_ge (tgt := 399) hx hb dL_law_341 (by decide) (fun h => absurd h (by decide)) (fun _ => ?_)
    refine lv_aload_n hx hb dL_law_344 rfl (lv_at hl 6 rfl) ?_
    refine lv_aload hx hb dL_law_345 (lv_at hl 10 rfl) ?_
    refine lv_aload hx hb dL_law_347 (lv_at hl 11 rfl) ?_
    refine lv_aload hx hb dL_law_349 (lv_at hl 12 rfl) ?_
    refine lv_aload hx hb dL_law_351 (lv_at hl 13 rfl) ?_
    refine lv_iload hx hb dL_law_353 (lv_at hl 2 rfl) ?_
    refine lv_bipush (v := 12) hx hb dL_law_355 (by decide) ?_
    refine lv_icmp_ne (tgt := 364) hx hb dL_law_357 (by decide) (fun _ => ?_) (fun h => absurd h (by decide))
    refine lv_iload hx hb dL_law_364 (lv_at hl 2 rfl) ?_
    refine lv_bipush (v := 16) hx hb dL_law_366 (by decide) ?_
    refine lv_icmp_ge (tgt := 375) hx hb dL_law_368 (by decide) (fun _ => ?_) (fun h => absurd (by decide) h)
    refine lv_iload hx hb dL_law_375 (lv_at hl 2 rfl) ?_
    refine lv_bipush (v := 22) hx hb dL_law_377 (by decide) ?_
    refine lv_icmp_ge (tgt := 386) hx hb dL_law_379 (by decide) (fun h => absurd h (by decide)) (fun _ => ?_)
    refine lv_iconst (v := 2) hx hb dL_law_382 (by decide) ?_
    refine lv_goto (tgt := 387) hx hb dL_law_383 (by decide) ?_
    refine lv_iload hx hb dL_law_387 (lv_at hl 1 rfl) ?_
    refine lv_iload hx hb dL_law_389 (lv_at hl 0 rfl) ?_
    refine fx_callS (rest := []) (as := [.ref (Z.A 0 0), .ref (la 3), .ref (la 4), .ref (la 5), .ref (la 6), .int 2, .int one, .int two]) hx hb hml hts hown hK hE hI (qV_2 G hst0 hR (by omega) one two h1 h2) kw_173 ⟨(Nat.le_of_ble_eq_true rfl), (Nat.le_of_ble_eq_true rfl)⟩ hl.1 (Nat.le_of_ble_eq_true rfl) dL_law_391 ⟨by show 1000 + 388 * n + 5 ≤ 799779; omega, by show 10000 + 3100 * n + 802 ≤ 6702131; omega⟩ (fun v w9 H locs hp hI => ?_)
    obtain ⟨rfl, Z9, S9, M9, L9, hR9, hA9, rfl⟩ := hp
    refine lv_istore (lv' := [(9, .int 1), (13, .int two), (12, .int one), (11, .int 20), (10, .int (nI n)), (0, .ref b), (1, .ref (Z.A 0 0)), (2, .ref (la 0)), (3, .ref (la 1)), (4, .ref (la 2)), (5, .ref (la 3)), (6, .ref (la 4)), (7, .ref (la 5)), (8, .ref (la 6))]) hx hb dL_law_394 hl (by decide) rfl (fun ls hl => ?_)
    refine lv_goto (tgt := 455) hx hb dL_law_396 (by decide) ?_
    exact K Z9 S9 M9 L9 H locs ls hR9 (hA9.trans hx0) hI (by rw [← hx0]; exact lv_sub hl [0, 4, 5, 6, 7, 8, 9, 10, 11, 12, 13] rfl)
  · have hl : lv_has ls 14 [(13, .int two), (12, .int one), (11, .int 21), (9, .int 1), (10, .int (nI n)), (0, .ref b), (1, .ref (Z.A 0 0)), (2, .ref (la 0)), (3, .ref (la 1)), (4, .ref (la 2)), (5, .ref (la 3)), (6, .ref (la 4)), (7, .ref (la 5)), (8, .ref (la 6))] := hl
    refine lv_iload hx hb dL_law_240 (lv_at hl 2 rfl) ?_
    refine lv_iconst (v := 2) hx hb dL_law_242 (by decide) ?_
    refine lv_icmp_ge (tgt := 267) hx hb dL_law_243 (by decide) (fun _ => ?_) (fun h => absurd (by decide) h)
    refine lv_iload hx hb dL_law_267 (lv_at hl 2 rfl) ?_
    refine lv_bipush (v := 12) hx hb dL_law_269 (by decide) ?_
    refine lv_icmp_ge (tgt := 337) hx hb dL_law_271 (by decide) (fun _ => ?_) (fun h => absurd (by decide) h)
    refine lv_iload hx hb dL_law_337 (lv_at hl 2 rfl) ?_
    refine lv_bipush (v := 24) hx hb dL_law_339 (by decide) ?_
    refine lv_icmp_ge (tgt := 399) hx hb dL_law_341 (by decide) (fun h => absurd h (by decide)) (fun _ => ?_)
    refine lv_aload_n hx hb dL_law_344 rfl (lv_at hl 6 rfl) ?_
    refine lv_aload hx hb dL_law_345 (lv_at hl 10 rfl) ?_
    refine lv_aload hx hb dL_law_347 (lv_at hl 11 rfl) ?_
    refine lv_aload hx hb dL_law_349 (lv_at hl 12 rfl) ?_
    refine lv_aload hx hb dL_law_351 (lv_at hl 13 rfl) ?_
    refine lv_iload hx hb dL_law_353 (lv_at hl 2 rfl) ?_
    refine lv_bipush (v := 12) hx hb dL_law_355 (by decide) ?_
    refine lv_icmp_ne (tgt := 364) hx hb dL_law_357 (by decide) (fun _ => ?_) (fun h => absurd h (by decide))
    refine lv_iload hx hb dL_law_364 (lv_at hl 2 rfl) ?_
    refine lv_bipush (v := 16) hx hb dL_law_366 (by decide) ?_
    refine lv_icmp_ge (tgt := 375) hx hb dL_law_368 (by decide) (fun _ => ?_) (fun h => absurd (by decide) h)
    refine lv_iload hx hb dL_law_375 (lv_at hl 2 rfl) ?_
    refine lv_bipush (v := 22) hx hb dL_law_377 (by decide) ?_
    refine lv_icmp_ge (tgt := 386) hx hb dL_law_379 (by decide) (fun h => absurd h (by decide)) (fun _ => ?_)
    refine lv_iconst (v := 2) hx hb dL_law_382 (by decide) ?_
    refine lv_goto (tgt := 387) hx hb dL_law_383 (by decide) ?_
    refine lv_iload hx hb dL_law_387 (lv_at hl 1 rfl) ?_
    refine lv_iload hx hb dL_law_389 (lv_at hl 0 rfl) ?_
    refine fx_callS (rest := []) (as := [.ref (Z.A 0 0), .ref (la 3), .ref (la 4), .ref (la 5), .ref (la 6), .int 2, .int one, .int two]) hx hb hml hts hown hK hE hI (qV_2 G hst0 hR (by omega) one two h1 h2) kw_173 ⟨(Nat.le_of_ble_eq_true rfl), (Nat.le_of_ble_eq_true rfl)⟩ hl.1 (Nat.le_of_ble_eq_true rfl) dL_law_391 ⟨by show 1000 + 388 * n + 5 ≤ 799779; omega, by show 10000 + 3100 * n + 802 ≤ 6702131; omega⟩ (fun v w9 H locs hp hI => ?_)
    obtain ⟨rfl, Z9, S9, M9, L9, hR9, hA9, rfl⟩ := hp
    refine lv_istore (lv' := [(9, .int 1), (13, .int two), (12, .int one), (11, .int 21), (10, .int (nI n)), (0, .ref b), (1, .ref (Z.A 0 0)), (2, .ref (la 0)), (3, .ref (la 1)), (4, .ref (la 2)), (5, .ref (la 3)), (6, .ref (la 4)), (7, .ref (la 5)), (8, .ref (la 6))]) hx hb dL_law_394 hl (by decide) rfl (fun ls hl => ?_)
    refine lv_goto (tgt := 455) hx hb dL_law_396 (by decide) ?_
    exact K Z9 S9 M9 L9 H locs ls hR9 (hA9.trans hx0) hI (by rw [← hx0]; exact lv_sub hl [0, 4, 5, 6, 7, 8, 9, 10, 11, 12, 13] rfl)
  · have hl : lv_has ls 14 [(13, .int two), (12, .int one), (11, .int 22), (9, .int 1), (10, .int (nI n)), (0, .ref b), (1, .ref (Z.A 0 0)), (2, .ref (la 0)), (3, .ref (la 1)), (4, .ref (la 2)), (5, .ref (la 3)), (6, .ref (la 4)), (7, .ref (la 5)), (8, .ref (la 6))] := hl
    refine lv_iload hx hb dL_law_240 (lv_at hl 2 rfl) ?_
    refine lv_iconst (v := 2) hx hb dL_law_242 (by decide) ?_
    refine lv_icmp_ge (tgt := 267) hx hb dL_law_243 (by decide) (fun _ => ?_) (fun h => absurd (by decide) h)
    refine lv_iload hx hb dL_law_267 (lv_at hl 2 rfl) ?_
    refine lv_bipush (v := 12) hx hb dL_law_269 (by decide) ?_
    refine lv_icmp_ge (tgt := 337) hx hb dL_law_271 (by decide) (fun _ => ?_) (fun h => absurd (by decide) h)
    refine lv_iload hx hb dL_law_337 (lv_at hl 2 rfl) ?_
    refine lv_bipush (v := 24) hx hb dL_law_339 (by decide) ?_
    refine lv_icmp_ge (tgt := 399) hx hb dL_law_341 (by decide) (fun h => absurd h (by decide)) (fun _ => ?_)
    refine lv_aload_n hx hb dL_law_344 rfl (lv_at hl 6 rfl) ?_
    refine lv_aload hx hb dL_law_345 (lv_at hl 10 rfl) ?_
    refine lv_aload hx hb dL_law_347 (lv_at hl 11 rfl) ?_
    refine lv_aload hx hb dL_law_349 (lv_at hl 12 rfl) ?_
    refine lv_aload hx hb dL_law_351 (lv_at hl 13 rfl) ?_
    refine lv_iload hx hb dL_law_353 (lv_at hl 2 rfl) ?_
    refine lv_bipush (v := 12) hx hb dL_law_355 (by decide) ?_
    refine lv_icmp_ne (tgt := 364) hx hb dL_law_357 (by decide) (fun _ => ?_) (fun h => absurd h (by decide))
    refine lv_iload hx hb dL_law_364 (lv_at hl 2 rfl) ?_
    refine lv_bipush (v := 16) hx hb dL_law_366 (by decide) ?_
    refine lv_icmp_ge (tgt := 375) hx hb dL_law_368 (by decide) (fun _ => ?_) (fun h => absurd (by decide) h)
    refine lv_iload hx hb dL_law_375 (lv_at hl 2 rfl) ?_
    refine lv_bipush (v := 22) hx hb dL_law_377 (by decide) ?_
    refine lv_icmp_ge (tgt := 386) hx hb dL_law_379 (by decide) (fun _ => ?_) (fun h => absurd (by decide) h)
    refine lv_iconst (v := 3) hx hb dL_law_386 (by decide) ?_
    refine lv_iload hx hb dL_law_387 (lv_at hl 1 rfl) ?_
    refine lv_iload hx hb dL_law_389 (lv_at hl 0 rfl) ?_
    refine fx_callS (rest := []) (as := [.ref (Z.A 0 0), .ref (la 3), .ref (la 4), .ref (la 5), .ref (la 6), .int 3, .int one, .int two]) hx hb hml hts hown hK hE hI (qV_3 G hst0 hR (by omega) one two h1 h2) kw_173 ⟨(Nat.le_of_ble_eq_true rfl), (Nat.le_of_ble_eq_true rfl)⟩ hl.1 (Nat.le_of_ble_eq_true rfl) dL_law_391 ⟨by show 1000 + 388 * n + 5 ≤ 799779; omega, by show 10000 + 3100 * n + 802 ≤ 6702131; omega⟩ (fun v w9 H locs hp hI => ?_)
    obtain ⟨rfl, Z9, S9, M9, L9, hR9, hA9, rfl⟩ := hp
    refine lv_istore (lv' := [(9, .int 1), (13, .int two), (12, .int one), (11, .int 22), (10, .int (nI n)), (0, .ref b), (1, .ref (Z.A 0 0)), (2, .ref (la 0)), (3, .ref (la 1)), (4, .ref (la 2)), (5, .ref (la 3)), (6, .ref (la 4)), (7, .ref (la 5)), (8, .ref (la 6))]) hx hb dL_law_394 hl (by decide) rfl (fun ls hl => ?_)
    refine lv_goto (tgt := 455) hx hb dL_law_396 (by decide) ?_
    exact K Z9 S9 M9 L9 H locs ls hR9 (hA9.trans hx0) hI (by rw [← hx0]; exact lv_sub hl [0, 4, 5, 6, 7, 8, 9, 10, 11, 12, 13] rfl)
  · have hl : lv_has ls 14 [(13, .int two), (12, .int one), (11, .int 23), (9, .int 1), (10, .int (nI n)), (0, .ref b), (1, .ref (Z.A 0 0)), (2, .ref (la 0)), (3, .ref (la 1)), (4, .ref (la 2)), (5, .ref (la 3)), (6, .ref (la 4)), (7, .ref (la 5)), (8, .ref (la 6))] := hl
    refine lv_iload hx hb dL_law_240 (lv_at hl 2 rfl) ?_
    refine lv_iconst (v := 2) hx hb dL_law_242 (by decide) ?_
    refine lv_icmp_ge (tgt := 267) hx hb dL_law_243 (by decide) (fun _ => ?_) (fun h => absurd (by decide) h)
    refine lv_iload hx hb dL_law_267 (lv_at hl 2 rfl) ?_
    refine lv_bipush (v := 12) hx hb dL_law_269 (by decide) ?_
    refine lv_icmp_ge (tgt := 337) hx hb dL_law_271 (by decide) (fun _ => ?_) (fun h => absurd (by decide) h)
    refine lv_iload hx hb dL_law_337 (lv_at hl 2 rfl) ?_
    refine lv_bipush (v := 24) hx hb dL_law_339 (by decide) ?_
    refine lv_icmp_ge (tgt := 399) hx hb dL_law_341 (by decide) (fun h => absurd h (by decide)) (fun _ => ?_)
    refine lv_aload_n hx hb dL_law_344 rfl (lv_at hl 6 rfl) ?_
    refine lv_aload hx hb dL_law_345 (lv_at hl 10 rfl) ?_
    refine lv_aload hx hb dL_law_347 (lv_at hl 11 rfl) ?_
    refine lv_aload hx hb dL_law_349 (lv_at hl 12 rfl) ?_
    refine lv_aload hx hb dL_law_351 (lv_at hl 13 rfl) ?_
    refine lv_iload hx hb dL_law_353 (lv_at hl 2 rfl) ?_
    refine lv_bipush (v := 12) hx hb dL_law_355 (by decide) ?_
    refine lv_icmp_ne (tgt := 364) hx hb dL_law_357 (by decide) (fun _ => ?_) (fun h => absurd h (by decide))
    refine lv_iload hx hb dL_law_364 (lv_at hl 2 rfl) ?_
    refine lv_bipush (v := 16) hx hb dL_law_366 (by decide) ?_
    refine lv_icmp_ge (tgt := 375) hx hb dL_law_368 (by decide) (fun _ => ?_) (fun h => absurd (by decide) h)
    refine lv_iload hx hb dL_law_375 (lv_at hl 2 rfl) ?_
    refine lv_bipush (v := 22) hx hb dL_law_377 (by decide) ?_
    refine lv_icmp_ge (tgt := 386) hx hb dL_law_379 (by decide) (fun _ => ?_) (fun h => absurd (by decide) h)
    refine lv_iconst (v := 3) hx hb dL_law_386 (by decide) ?_
    refine lv_iload hx hb dL_law_387 (lv_at hl 1 rfl) ?_
    refine lv_iload hx hb dL_law_389 (lv_at hl 0 rfl) ?_
    refine fx_callS (rest := []) (as := [.ref (Z.A 0 0), .ref (la 3), .ref (la 4), .ref (la 5), .ref (la 6), .int 3, .int one, .int two]) hx hb hml hts hown hK hE hI (qV_3 G hst0 hR (by omega) one two h1 h2) kw_173 ⟨(Nat.le_of_ble_eq_true rfl), (Nat.le_of_ble_eq_true rfl)⟩ hl.1 (Nat.le_of_ble_eq_true rfl) dL_law_391 ⟨by show 1000 + 388 * n + 5 ≤ 799779; omega, by show 10000 + 3100 * n + 802 ≤ 6702131; omega⟩ (fun v w9 H locs hp hI => ?_)
    obtain ⟨rfl, Z9, S9, M9, L9, hR9, hA9, rfl⟩ := hp
    refine lv_istore (lv' := [(9, .int 1), (13, .int two), (12, .int one), (11, .int 23), (10, .int (nI n)), (0, .ref b), (1, .ref (Z.A 0 0)), (2, .ref (la 0)), (3, .ref (la 1)), (4, .ref (la 2)), (5, .ref (la 3)), (6, .ref (la 4)), (7, .ref (la 5)), (8, .ref (la 6))]) hx hb dL_law_394 hl (by decide) rfl (fun ls hl => ?_)
    refine lv_goto (tgt := 455) hx hb dL_law_396 (by decide) ?_
    exact K Z9 S9 M9 L9 H locs ls hR9 (hA9.trans hx0) hI (by rw [← hx0]; exact lv_sub hl [0, 4, 5, 6, 7, 8, 9, 10, 11, 12, 13] rfl)
  · have hl : lv_has ls 14 [(13, .int two), (12, .int one), (11, .int 24), (9, .int 1), (10, .int (nI n)), (0, .ref b), (1, .ref (Z.A 0 0)), (2, .ref (la 0)), (3, .ref (la 1)), (4, .ref (la 2)), (5, .ref (la 3)), (6, .ref (la 4)), (7, .ref (la 5)), (8, .ref (la 6))] := hl
    refine lv_iload hx hb dL_law_240 (lv_at hl 2 rfl) ?_
    refine lv_iconst (v := 2) hx hb dL_law_242 (by decide) ?_
    refine lv_icmp_ge (tgt := 267) hx hb dL_law_243 (by decide) (fun _ => ?_) (fun h => absurd (by decide) h)
    refine lv_iload hx hb dL_law_267 (lv_at hl 2 rfl) ?_
    refine lv_bipush (v := 12) hx hb dL_law_269 (by decide) ?_
    refine lv_icmp_ge (tgt := 337) hx hb dL_law_271 (by decide) (fun _ => ?_) (fun h => absurd (by decide) h)
    refine lv_iload hx hb dL_law_337 (lv_at hl 2 rfl) ?_
    refine lv_bipush (v := 24) hx hb dL_law_339 (by decide) ?_
    refine lv_icmp_ge (tgt := 399) hx hb dL_law_341 (by decide) (fun _ => ?_) (fun h => absurd (by decide) h)
    refine lv_aload_n hx hb dL_law_399 rfl (lv_at hl 6 rfl) ?_
    refine lv_aload_n hx hb dL_law_400 rfl (lv_at hl 7 rfl) ?_
    refine lv_aload_n hx hb dL_law_401 rfl (lv_at hl 8 rfl) ?_
    refine lv_aload hx hb dL_law_402 (lv_at hl 9 rfl) ?_
    refine lv_aload hx hb dL_law_404 (lv_at hl 10 rfl) ?_
    refine lv_aload hx hb dL_law_406 (lv_at hl 11 rfl) ?_
    refine lv_aload hx hb dL_law_408 (lv_at hl 12 rfl) ?_
    refine lv_aload hx hb dL_law_410 (lv_at hl 13 rfl) ?_
    refine lv_iload hx hb dL_law_412 (lv_at hl 2 rfl) ?_
    refine lv_bipush (v := 26) hx hb dL_law_414 (by decide) ?_
    refine lv_icmp_ge (tgt := 423) hx hb dL_law_416 (by decide) (fun h => absurd h (by decide)) (fun _ => ?_)
    refine lv_iconst (v := 0) hx hb dL_law_419 (by decide) ?_
    refine lv_goto (tgt := 446) hx hb dL_law_420 (by decide) ?_
    refine lv_iload hx hb dL_law_446 (lv_at hl 1 rfl) ?_
    refine lv_iload hx hb dL_law_448 (lv_at hl 0 rfl) ?_
    refine fx_callS (rest := []) (as := [.ref (Z.A 0 0), .ref (la 0), .ref (la 1), .ref (la 2), .ref (la 3), .ref (la 4), .ref (la 5), .ref (la 6), .int 0, .int one, .int two]) hx hb hml hts hown hK hE hI (qT_0 G hst0 hR (by omega) one two h1 h2) kw_176 ⟨(Nat.le_of_ble_eq_true rfl), (Nat.le_of_ble_eq_true rfl)⟩ hl.1 (Nat.le_of_ble_eq_true rfl) dL_law_450 ⟨by show 1000 + 388 * n + 5 ≤ 799779; omega, by show 10000 + 3100 * n + 802 ≤ 6702131; omega⟩ (fun v w9 H locs hp hI => ?_)
    obtain ⟨rfl, Z9, S9, M9, L9, hR9, hA9, rfl⟩ := hp
    refine lv_istore (lv' := [(9, .int 1), (13, .int two), (12, .int one), (11, .int 24), (10, .int (nI n)), (0, .ref b), (1, .ref (Z.A 0 0)), (2, .ref (la 0)), (3, .ref (la 1)), (4, .ref (la 2)), (5, .ref (la 3)), (6, .ref (la 4)), (7, .ref (la 5)), (8, .ref (la 6))]) hx hb dL_law_453 hl (by decide) rfl (fun ls hl => ?_)
    exact K Z9 S9 M9 L9 H locs ls hR9 (hA9.trans hx0) hI (by rw [← hx0]; exact lv_sub hl [0, 4, 5, 6, 7, 8, 9, 10, 11, 12, 13] rfl)
  · have hl : lv_has ls 14 [(13, .int two), (12, .int one), (11, .int 25), (9, .int 1), (10, .int (nI n)), (0, .ref b), (1, .ref (Z.A 0 0)), (2, .ref (la 0)), (3, .ref (la 1)), (4, .ref (la 2)), (5, .ref (la 3)), (6, .ref (la 4)), (7, .ref (la 5)), (8, .ref (la 6))] := hl
    refine lv_iload hx hb dL_law_240 (lv_at hl 2 rfl) ?_
    refine lv_iconst (v := 2) hx hb dL_law_242 (by decide) ?_
    refine lv_icmp_ge (tgt := 267) hx hb dL_law_243 (by decide) (fun _ => ?_) (fun h => absurd (by decide) h)
    refine lv_iload hx hb dL_law_267 (lv_at hl 2 rfl) ?_
    refine lv_bipush (v := 12) hx hb dL_law_269 (by decide) ?_
    refine lv_icmp_ge (tgt := 337) hx hb dL_law_271 (by decide) (fun _ => ?_) (fun h => absurd (by decide) h)
    refine lv_iload hx hb dL_law_337 (lv_at hl 2 rfl) ?_
    refine lv_bipush (v := 24) hx hb dL_law_339 (by decide) ?_
    refine lv_icmp_ge (tgt := 399) hx hb dL_law_341 (by decide) (fun _ => ?_) (fun h => absurd (by decide) h)
    refine lv_aload_n hx hb dL_law_399 rfl (lv_at hl 6 rfl) ?_
    refine lv_aload_n hx hb dL_law_400 rfl (lv_at hl 7 rfl) ?_
    refine lv_aload_n hx hb dL_law_401 rfl (lv_at hl 8 rfl) ?_
    refine lv_aload hx hb dL_law_402 (lv_at hl 9 rfl) ?_
    refine lv_aload hx hb dL_law_404 (lv_at hl 10 rfl) ?_
    refine lv_aload hx hb dL_law_406 (lv_at hl 11 rfl) ?_
    refine lv_aload hx hb dL_law_408 (lv_at hl 12 rfl) ?_
    refine lv_aload hx hb dL_law_410 (lv_at hl 13 rfl) ?_
    refine lv_iload hx hb dL_law_412 (lv_at hl 2 rfl) ?_
    refine lv_bipush (v := 26) hx hb dL_law_414 (by decide) ?_
    refine lv_icmp_ge (tgt := 423) hx hb dL_law_416 (by decide) (fun h => absurd h (by decide)) (fun _ => ?_)
    refine lv_iconst (v := 0) hx hb dL_law_419 (by decide) ?_
    refine lv_goto (tgt := 446) hx hb dL_law_420 (by decide) ?_
    refine lv_iload hx hb dL_law_446 (lv_at hl 1 rfl) ?_
    refine lv_iload hx hb dL_law_448 (lv_at hl 0 rfl) ?_
    refine fx_callS (rest := []) (as := [.ref (Z.A 0 0), .ref (la 0), .ref (la 1), .ref (la 2), .ref (la 3), .ref (la 4), .ref (la 5), .ref (la 6), .int 0, .int one, .int two]) hx hb hml hts hown hK hE hI (qT_0 G hst0 hR (by omega) one two h1 h2) kw_176 ⟨(Nat.le_of_ble_eq_true rfl), (Nat.le_of_ble_eq_true rfl)⟩ hl.1 (Nat.le_of_ble_eq_true rfl) dL_law_450 ⟨by show 1000 + 388 * n + 5 ≤ 799779; omega, by show 10000 + 3100 * n + 802 ≤ 6702131; omega⟩ (fun v w9 H locs hp hI => ?_)
    obtain ⟨rfl, Z9, S9, M9, L9, hR9, hA9, rfl⟩ := hp
    refine lv_istore (lv' := [(9, .int 1), (13, .int two), (12, .int one), (11, .int 25), (10, .int (nI n)), (0, .ref b), (1, .ref (Z.A 0 0)), (2, .ref (la 0)), (3, .ref (la 1)), (4, .ref (la 2)), (5, .ref (la 3)), (6, .ref (la 4)), (7, .ref (la 5)), (8, .ref (la 6))]) hx hb dL_law_453 hl (by decide) rfl (fun ls hl => ?_)
    exact K Z9 S9 M9 L9 H locs ls hR9 (hA9.trans hx0) hI (by rw [← hx0]; exact lv_sub hl [0, 4, 5, 6, 7, 8, 9, 10, 11, 12, 13] rfl)
  · have hl : lv_has ls 14 [(13, .int two), (12, .int one), (11, .int 26), (9, .int 1), (10, .int (nI n)), (0, .ref b), (1, .ref (Z.A 0 0)), (2, .ref (la 0)), (3, .ref (la 1)), (4, .ref (la 2)), (5, .ref (la 3)), (6, .ref (la 4)), (7, .ref (la 5)), (8, .ref (la 6))] := hl
    refine lv_iload hx hb dL_law_240 (lv_at hl 2 rfl) ?_
    refine lv_iconst (v := 2) hx hb dL_law_242 (by decide) ?_
    refine lv_icmp_ge (tgt := 267) hx hb dL_law_243 (by decide) (fun _ => ?_) (fun h => absurd (by decide) h)
    refine lv_iload hx hb dL_law_267 (lv_at hl 2 rfl) ?_
    refine lv_bipush (v := 12) hx hb dL_law_269 (by decide) ?_
    refine lv_icmp_ge (tgt := 337) hx hb dL_law_271 (by decide) (fun _ => ?_) (fun h => absurd (by decide) h)
    refine lv_iload hx hb dL_law_337 (lv_at hl 2 rfl) ?_
    refine lv_bipush (v := 24) hx hb dL_law_339 (by decide) ?_
    refine lv_icmp_ge (tgt := 399) hx hb dL_law_341 (by decide) (fun _ => ?_) (fun h => absurd (by decide) h)
    refine lv_aload_n hx hb dL_law_399 rfl (lv_at hl 6 rfl) ?_
    refine lv_aload_n hx hb dL_law_400 rfl (lv_at hl 7 rfl) ?_
    refine lv_aload_n hx hb dL_law_401 rfl (lv_at hl 8 rfl) ?_
    refine lv_aload hx hb dL_law_402 (lv_at hl 9 rfl) ?_
    refine lv_aload hx hb dL_law_404 (lv_at hl 10 rfl) ?_
    refine lv_aload hx hb dL_law_406 (lv_at hl 11 rfl) ?_
    refine lv_aload hx hb dL_law_408 (lv_at hl 12 rfl) ?_
    refine lv_aload hx hb dL_law_410 (lv_at hl 13 rfl) ?_
    refine lv_iload hx hb dL_law_412 (lv_at hl 2 rfl) ?_
    refine lv_bipush (v := 26) hx hb dL_law_414 (by decide) ?_
    refine lv_icmp_ge (tgt := 423) hx hb dL_law_416 (by decide) (fun _ => ?_) (fun h => absurd (by decide) h)
    refine lv_iload hx hb dL_law_423 (lv_at hl 2 rfl) ?_
    refine lv_bipush (v := 26) hx hb dL_law_425 (by decide) ?_
    refine lv_icmp_ne (tgt := 434) hx hb dL_law_427 (by decide) (fun h => absurd (by decide) h) (fun _ => ?_)
    refine lv_iconst (v := 1) hx hb dL_law_430 (by decide) ?_
    refine lv_goto (tgt := 446) hx hb dL_law_431 (by decide) ?_
    refine lv_iload hx hb dL_law_446 (lv_at hl 1 rfl) ?_
    refine lv_iload hx hb dL_law_448 (lv_at hl 0 rfl) ?_
    refine fx_callS (rest := []) (as := [.ref (Z.A 0 0), .ref (la 0), .ref (la 1), .ref (la 2), .ref (la 3), .ref (la 4), .ref (la 5), .ref (la 6), .int 1, .int one, .int two]) hx hb hml hts hown hK hE hI (qT_1 G hst0 hR (by omega) one two h1 h2) kw_176 ⟨(Nat.le_of_ble_eq_true rfl), (Nat.le_of_ble_eq_true rfl)⟩ hl.1 (Nat.le_of_ble_eq_true rfl) dL_law_450 ⟨by show 1000 + 388 * n + 5 ≤ 799779; omega, by show 10000 + 3100 * n + 802 ≤ 6702131; omega⟩ (fun v w9 H locs hp hI => ?_)
    obtain ⟨rfl, Z9, S9, M9, L9, hR9, hA9, rfl⟩ := hp
    refine lv_istore (lv' := [(9, .int 1), (13, .int two), (12, .int one), (11, .int 26), (10, .int (nI n)), (0, .ref b), (1, .ref (Z.A 0 0)), (2, .ref (la 0)), (3, .ref (la 1)), (4, .ref (la 2)), (5, .ref (la 3)), (6, .ref (la 4)), (7, .ref (la 5)), (8, .ref (la 6))]) hx hb dL_law_453 hl (by decide) rfl (fun ls hl => ?_)
    exact K Z9 S9 M9 L9 H locs ls hR9 (hA9.trans hx0) hI (by rw [← hx0]; exact lv_sub hl [0, 4, 5, 6, 7, 8, 9, 10, 11, 12, 13] rfl)
  · have hl : lv_has ls 14 [(13, .int two), (12, .int one), (11, .int 27), (9, .int 1), (10, .int (nI n)), (0, .ref b), (1, .ref (Z.A 0 0)), (2, .ref (la 0)), (3, .ref (la 1)), (4, .ref (la 2)), (5, .ref (la 3)), (6, .ref (la 4)), (7, .ref (la 5)), (8, .ref (la 6))] := hl
    refine lv_iload hx hb dL_law_240 (lv_at hl 2 rfl) ?_
    refine lv_iconst (v := 2) hx hb dL_law_242 (by decide) ?_
    refine lv_icmp_ge (tgt := 267) hx hb dL_law_243 (by decide) (fun _ => ?_) (fun h => absurd (by decide) h)
    refine lv_iload hx hb dL_law_267 (lv_at hl 2 rfl) ?_
    refine lv_bipush (v := 12) hx hb dL_law_269 (by decide) ?_
    refine lv_icmp_ge (tgt := 337) hx hb dL_law_271 (by decide) (fun _ => ?_) (fun h => absurd (by decide) h)
    refine lv_iload hx hb dL_law_337 (lv_at hl 2 rfl) ?_
    refine lv_bipush (v := 24) hx hb dL_law_339 (by decide) ?_
    refine lv_icmp_ge (tgt := 399) hx hb dL_law_341 (by decide) (fun _ => ?_) (fun h => absurd (by decide) h)
    refine lv_aload_n hx hb dL_law_399 rfl (lv_at hl 6 rfl) ?_
    refine lv_aload_n hx hb dL_law_400 rfl (lv_at hl 7 rfl) ?_
    refine lv_aload_n hx hb dL_law_401 rfl (lv_at hl 8 rfl) ?_
    refine lv_aload hx hb dL_law_402 (lv_at hl 9 rfl) ?_
    refine lv_aload hx hb dL_law_404 (lv_at hl 10 rfl) ?_
    refine lv_aload hx hb dL_law_406 (lv_at hl 11 rfl) ?_
    refine lv_aload hx hb dL_law_408 (lv_at hl 12 rfl) ?_
    refine lv_aload hx hb dL_law_410 (lv_at hl 13 rfl) ?_
    refine lv_iload hx hb dL_law_412 (lv_at hl 2 rfl) ?_
    refine lv_bipush (v := 26) hx hb dL_law_414 (by decide) ?_
    refine lv_icmp_ge (tgt := 423) hx hb dL_law_416 (by decide) (fun _ => ?_) (fun h => absurd (by decide) h)
    refine lv_iload hx hb dL_law_423 (lv_at hl 2 rfl) ?_
    refine lv_bipush (v := 26) hx hb dL_law_425 (by decide) ?_
    refine lv_icmp_ne (tgt := 434) hx hb dL_law_427 (by decide) (fun _ => ?_) (fun h => absurd h (by decide))
    refine lv_iload hx hb dL_law_434 (lv_at hl 2 rfl) ?_
    refine lv_bipush (v := 27) hx hb dL_law_436 (by decide) ?_
    refine lv_icmp_ne (tgt := 445) hx hb dL_law_438 (by decide) (fun h => absurd (by decide) h) (fun _ => ?_)
    refine lv_iconst (v := 2) hx hb dL_law_441 (by decide) ?_
    refine lv_goto (tgt := 446) hx hb dL_law_442 (by decide) ?_
    refine lv_iload hx hb dL_law_446 (lv_at hl 1 rfl) ?_
    refine lv_iload hx hb dL_law_448 (lv_at hl 0 rfl) ?_
    refine fx_callS (rest := []) (as := [.ref (Z.A 0 0), .ref (la 0), .ref (la 1), .ref (la 2), .ref (la 3), .ref (la 4), .ref (la 5), .ref (la 6), .int 2, .int one, .int two]) hx hb hml hts hown hK hE hI (qT_2 G hst0 hR (by omega) one two h1 h2) kw_176 ⟨(Nat.le_of_ble_eq_true rfl), (Nat.le_of_ble_eq_true rfl)⟩ hl.1 (Nat.le_of_ble_eq_true rfl) dL_law_450 ⟨by show 1000 + 388 * n + 5 ≤ 799779; omega, by show 10000 + 3100 * n + 802 ≤ 6702131; omega⟩ (fun v w9 H locs hp hI => ?_)
    obtain ⟨rfl, Z9, S9, M9, L9, hR9, hA9, rfl⟩ := hp
    refine lv_istore (lv' := [(9, .int 1), (13, .int two), (12, .int one), (11, .int 27), (10, .int (nI n)), (0, .ref b), (1, .ref (Z.A 0 0)), (2, .ref (la 0)), (3, .ref (la 1)), (4, .ref (la 2)), (5, .ref (la 3)), (6, .ref (la 4)), (7, .ref (la 5)), (8, .ref (la 6))]) hx hb dL_law_453 hl (by decide) rfl (fun ls hl => ?_)
    exact K Z9 S9 M9 L9 H locs ls hR9 (hA9.trans hx0) hI (by rw [← hx0]; exact lv_sub hl [0, 4, 5, 6, 7, 8, 9, 10, 11, 12, 13] rfl)
  · have hl : lv_has ls 14 [(13, .int two), (12, .int one), (11, .int 28), (9, .int 1), (10, .int (nI n)), (0, .ref b), (1, .ref (Z.A 0 0)), (2, .ref (la 0)), (3, .ref (la 1)), (4, .ref (la 2)), (5, .ref (la 3)), (6, .ref (la 4)), (7, .ref (la 5)), (8, .ref (la 6))] := hl
    refine lv_iload hx hb dL_law_240 (lv_at hl 2 rfl) ?_
    refine lv_iconst (v := 2) hx hb dL_law_242 (by decide) ?_
    refine lv_icmp_ge (tgt := 267) hx hb dL_law_243 (by decide) (fun _ => ?_) (fun h => absurd (by decide) h)
    refine lv_iload hx hb dL_law_267 (lv_at hl 2 rfl) ?_
    refine lv_bipush (v := 12) hx hb dL_law_269 (by decide) ?_
    refine lv_icmp_ge (tgt := 337) hx hb dL_law_271 (by decide) (fun _ => ?_) (fun h => absurd (by decide) h)
    refine lv_iload hx hb dL_law_337 (lv_at hl 2 rfl) ?_
    refine lv_bipush (v := 24) hx hb dL_law_339 (by decide) ?_
    refine lv_icmp_ge (tgt := 399) hx hb dL_law_341 (by decide) (fun _ => ?_) (fun h => absurd (by decide) h)
    refine lv_aload_n hx hb dL_law_399 rfl (lv_at hl 6 rfl) ?_
    refine lv_aload_n hx hb dL_law_400 rfl (lv_at hl 7 rfl) ?_
    refine lv_aload_n hx hb dL_law_401 rfl (lv_at hl 8 rfl) ?_
    refine lv_aload hx hb dL_law_402 (lv_at hl 9 rfl) ?_
    refine lv_aload hx hb dL_law_404 (lv_at hl 10 rfl) ?_
    refine lv_aload hx hb dL_law_406 (lv_at hl 11 rfl) ?_
    refine lv_aload hx hb dL_law_408 (lv_at hl 12 rfl) ?_
    refine lv_aload hx hb dL_law_410 (lv_at hl 13 rfl) ?_
    refine lv_iload hx hb dL_law_412 (lv_at hl 2 rfl) ?_
    refine lv_bipush (v := 26) hx hb dL_law_414 (by decide) ?_
    refine lv_icmp_ge (tgt := 423) hx hb dL_law_416 (by decide) (fun _ => ?_) (fun h => absurd (by decide) h)
    refine lv_iload hx hb dL_law_423 (lv_at hl 2 rfl) ?_
    refine lv_bipush (v := 26) hx hb dL_law_425 (by decide) ?_
    refine lv_icmp_ne (tgt := 434) hx hb dL_law_427 (by decide) (fun _ => ?_) (fun h => absurd h (by decide))
    refine lv_iload hx hb dL_law_434 (lv_at hl 2 rfl) ?_
    refine lv_bipush (v := 27) hx hb dL_law_436 (by decide) ?_
    refine lv_icmp_ne (tgt := 445) hx hb dL_law_438 (by decide) (fun _ => ?_) (fun h => absurd h (by decide))
    refine lv_iconst (v := 3) hx hb dL_law_445 (by decide) ?_
    refine lv_iload hx hb dL_law_446 (lv_at hl 1 rfl) ?_
    refine lv_iload hx hb dL_law_448 (lv_at hl 0 rfl) ?_
    refine fx_callS (rest := []) (as := [.ref (Z.A 0 0), .ref (la 0), .ref (la 1), .ref (la 2), .ref (la 3), .ref (la 4), .ref (la 5), .ref (la 6), .int 3, .int one, .int two]) hx hb hml hts hown hK hE hI (qT_3 G hst0 hR (by omega) one two h1 h2) kw_176 ⟨(Nat.le_of_ble_eq_true rfl), (Nat.le_of_ble_eq_true rfl)⟩ hl.1 (Nat.le_of_ble_eq_true rfl) dL_law_450 ⟨by show 1000 + 388 * n + 5 ≤ 799779; omega, by show 10000 + 3100 * n + 802 ≤ 6702131; omega⟩ (fun v w9 H locs hp hI => ?_)
    obtain ⟨rfl, Z9, S9, M9, L9, hR9, hA9, rfl⟩ := hp
    refine lv_istore (lv' := [(9, .int 1), (13, .int two), (12, .int one), (11, .int 28), (10, .int (nI n)), (0, .ref b), (1, .ref (Z.A 0 0)), (2, .ref (la 0)), (3, .ref (la 1)), (4, .ref (la 2)), (5, .ref (la 3)), (6, .ref (la 4)), (7, .ref (la 5)), (8, .ref (la 6))]) hx hb dL_law_453 hl (by decide) rfl (fun ls hl => ?_)
    exact K Z9 S9 M9 L9 H locs ls hR9 (hA9.trans hx0) hI (by rw [← hx0]; exact lv_sub hl [0, 4, 5, 6, 7, 8, 9, 10, 11, 12, 13] rfl)
  · have hl : lv_has ls 14 [(13, .int two), (12, .int one), (11, .int 29), (9, .int 1), (10, .int (nI n)), (0, .ref b), (1, .ref (Z.A 0 0)), (2, .ref (la 0)), (3, .ref (la 1)), (4, .ref (la 2)), (5, .ref (la 3)), (6, .ref (la 4)), (7, .ref (la 5)), (8, .ref (la 6))] := hl
    refine lv_iload hx hb dL_law_240 (lv_at hl 2 rfl) ?_
    refine lv_iconst (v := 2) hx hb dL_law_242 (by decide) ?_
    refine lv_icmp_ge (tgt := 267) hx hb dL_law_243 (by decide) (fun _ => ?_) (fun h => absurd (by decide) h)
    refine lv_iload hx hb dL_law_267 (lv_at hl 2 rfl) ?_
    refine lv_bipush (v := 12) hx hb dL_law_269 (by decide) ?_
    refine lv_icmp_ge (tgt := 337) hx hb dL_law_271 (by decide) (fun _ => ?_) (fun h => absurd (by decide) h)
    refine lv_iload hx hb dL_law_337 (lv_at hl 2 rfl) ?_
    refine lv_bipush (v := 24) hx hb dL_law_339 (by decide) ?_
    refine lv_icmp_ge (tgt := 399) hx hb dL_law_341 (by decide) (fun _ => ?_) (fun h => absurd (by decide) h)
    refine lv_aload_n hx hb dL_law_399 rfl (lv_at hl 6 rfl) ?_
    refine lv_aload_n hx hb dL_law_400 rfl (lv_at hl 7 rfl) ?_
    refine lv_aload_n hx hb dL_law_401 rfl (lv_at hl 8 rfl) ?_
    refine lv_aload hx hb dL_law_402 (lv_at hl 9 rfl) ?_
    refine lv_aload hx hb dL_law_404 (lv_at hl 10 rfl) ?_
    refine lv_aload hx hb dL_law_406 (lv_at hl 11 rfl) ?_
    refine lv_aload hx hb dL_law_408 (lv_at hl 12 rfl) ?_
    refine lv_aload hx hb dL_law_410 (lv_at hl 13 rfl) ?_
    refine lv_iload hx hb dL_law_412 (lv_at hl 2 rfl) ?_
    refine lv_bipush (v := 26) hx hb dL_law_414 (by decide) ?_
    refine lv_icmp_ge (tgt := 423) hx hb dL_law_416 (by decide) (fun _ => ?_) (fun h => absurd (by decide) h)
    refine lv_iload hx hb dL_law_423 (lv_at hl 2 rfl) ?_
    refine lv_bipush (v := 26) hx hb dL_law_425 (by decide) ?_
    refine lv_icmp_ne (tgt := 434) hx hb dL_law_427 (by decide) (fun _ => ?_) (fun h => absurd h (by decide))
    refine lv_iload hx hb dL_law_434 (lv_at hl 2 rfl) ?_
    refine lv_bipush (v := 27) hx hb dL_law_436 (by decide) ?_
    refine lv_icmp_ne (tgt := 445) hx hb dL_law_438 (by decide) (fun _ => ?_) (fun h => absurd h (by decide))
    refine lv_iconst (v := 3) hx hb dL_law_445 (by decide) ?_
    refine lv_iload hx hb dL_law_446 (lv_at hl 1 rfl) ?_
    refine lv_iload hx hb dL_law_448 (lv_at hl 0 rfl) ?_
    refine fx_callS (rest := []) (as := [.ref (Z.A 0 0), .ref (la 0), .ref (la 1), .ref (la 2), .ref (la 3), .ref (la 4), .ref (la 5), .ref (la 6), .int 3, .int one, .int two]) hx hb hml hts hown hK hE hI (qT_3 G hst0 hR (by omega) one two h1 h2) kw_176 ⟨(Nat.le_of_ble_eq_true rfl), (Nat.le_of_ble_eq_true rfl)⟩ hl.1 (Nat.le_of_ble_eq_true rfl) dL_law_450 ⟨by show 1000 + 388 * n + 5 ≤ 799779; omega, by show 10000 + 3100 * n + 802 ≤ 6702131; omega⟩ (fun v w9 H locs hp hI => ?_)
    obtain ⟨rfl, Z9, S9, M9, L9, hR9, hA9, rfl⟩ := hp
    refine lv_istore (lv' := [(9, .int 1), (13, .int two), (12, .int one), (11, .int 29), (10, .int (nI n)), (0, .ref b), (1, .ref (Z.A 0 0)), (2, .ref (la 0)), (3, .ref (la 1)), (4, .ref (la 2)), (5, .ref (la 3)), (6, .ref (la 4)), (7, .ref (la 5)), (8, .ref (la 6))]) hx hb dL_law_453 hl (by decide) rfl (fun ls hl => ?_)
    exact K Z9 S9 M9 L9 H locs ls hR9 (hA9.trans hx0) hI (by rw [← hx0]; exact lv_sub hl [0, 4, 5, 6, 7, 8, 9, 10, 11, 12, 13] rfl)
  · have hl : lv_has ls 14 [(13, .int two), (12, .int one), (11, .int 30), (9, .int 1), (10, .int (nI n)), (0, .ref b), (1, .ref (Z.A 0 0)), (2, .ref (la 0)), (3, .ref (la 1)), (4, .ref (la 2)), (5, .ref (la 3)), (6, .ref (la 4)), (7, .ref (la 5)), (8, .ref (la 6))] := hl
    refine lv_iload hx hb dL_law_240 (lv_at hl 2 rfl) ?_
    refine lv_iconst (v := 2) hx hb dL_law_242 (by decide) ?_
    refine lv_icmp_ge (tgt := 267) hx hb dL_law_243 (by decide) (fun _ => ?_) (fun h => absurd (by decide) h)
    refine lv_iload hx hb dL_law_267 (lv_at hl 2 rfl) ?_
    refine lv_bipush (v := 12) hx hb dL_law_269 (by decide) ?_
    refine lv_icmp_ge (tgt := 337) hx hb dL_law_271 (by decide) (fun _ => ?_) (fun h => absurd (by decide) h)
    refine lv_iload hx hb dL_law_337 (lv_at hl 2 rfl) ?_
    refine lv_bipush (v := 24) hx hb dL_law_339 (by decide) ?_
    refine lv_icmp_ge (tgt := 399) hx hb dL_law_341 (by decide) (fun _ => ?_) (fun h => absurd (by decide) h)
    refine lv_aload_n hx hb dL_law_399 rfl (lv_at hl 6 rfl) ?_
    refine lv_aload_n hx hb dL_law_400 rfl (lv_at hl 7 rfl) ?_
    refine lv_aload_n hx hb dL_law_401 rfl (lv_at hl 8 rfl) ?_
    refine lv_aload hx hb dL_law_402 (lv_at hl 9 rfl) ?_
    refine lv_aload hx hb dL_law_404 (lv_at hl 10 rfl) ?_
    refine lv_aload hx hb dL_law_406 (lv_at hl 11 rfl) ?_
    refine lv_aload hx hb dL_law_408 (lv_at hl 12 rfl) ?_
    refine lv_aload hx hb dL_law_410 (lv_at hl 13 rfl) ?_
    refine lv_iload hx hb dL_law_412 (lv_at hl 2 rfl) ?_
    refine lv_bipush (v := 26) hx hb dL_law_414 (by decide) ?_
    refine lv_icmp_ge (tgt := 423) hx hb dL_law_416 (by decide) (fun _ => ?_) (fun h => absurd (by decide) h)
    refine lv_iload hx hb dL_law_423 (lv_at hl 2 rfl) ?_
    refine lv_bipush (v := 26) hx hb dL_law_425 (by decide) ?_
    refine lv_icmp_ne (tgt := 434) hx hb dL_law_427 (by decide) (fun _ => ?_) (fun h => absurd h (by decide))
    refine lv_iload hx hb dL_law_434 (lv_at hl 2 rfl) ?_
    refine lv_bipush (v := 27) hx hb dL_law_436 (by decide) ?_
    refine lv_icmp_ne (tgt := 445) hx hb dL_law_438 (by decide) (fun _ => ?_) (fun h => absurd h (by decide))
    refine lv_iconst (v := 3) hx hb dL_law_445 (by decide) ?_
    refine lv_iload hx hb dL_law_446 (lv_at hl 1 rfl) ?_
    refine lv_iload hx hb dL_law_448 (lv_at hl 0 rfl) ?_
    refine fx_callS (rest := []) (as := [.ref (Z.A 0 0), .ref (la 0), .ref (la 1), .ref (la 2), .ref (la 3), .ref (la 4), .ref (la 5), .ref (la 6), .int 3, .int one, .int two]) hx hb hml hts hown hK hE hI (qT_3 G hst0 hR (by omega) one two h1 h2) kw_176 ⟨(Nat.le_of_ble_eq_true rfl), (Nat.le_of_ble_eq_true rfl)⟩ hl.1 (Nat.le_of_ble_eq_true rfl) dL_law_450 ⟨by show 1000 + 388 * n + 5 ≤ 799779; omega, by show 10000 + 3100 * n + 802 ≤ 6702131; omega⟩ (fun v w9 H locs hp hI => ?_)
    obtain ⟨rfl, Z9, S9, M9, L9, hR9, hA9, rfl⟩ := hp
    refine lv_istore (lv' := [(9, .int 1), (13, .int two), (12, .int one), (11, .int 30), (10, .int (nI n)), (0, .ref b), (1, .ref (Z.A 0 0)), (2, .ref (la 0)), (3, .ref (la 1)), (4, .ref (la 2)), (5, .ref (la 3)), (6, .ref (la 4)), (7, .ref (la 5)), (8, .ref (la 6))]) hx hb dL_law_453 hl (by decide) rfl (fun ls hl => ?_)
    exact K Z9 S9 M9 L9 H locs ls hR9 (hA9.trans hx0) hI (by rw [← hx0]; exact lv_sub hl [0, 4, 5, 6, 7, 8, 9, 10, 11, 12, 13] rfl)
  · have hl : lv_has ls 14 [(13, .int two), (12, .int one), (11, .int 31), (9, .int 1), (10, .int (nI n)), (0, .ref b), (1, .ref (Z.A 0 0)), (2, .ref (la 0)), (3, .ref (la 1)), (4, .ref (la 2)), (5, .ref (la 3)), (6, .ref (la 4)), (7, .ref (la 5)), (8, .ref (la 6))] := hl
    refine lv_iload hx hb dL_law_240 (lv_at hl 2 rfl) ?_
    refine lv_iconst (v := 2) hx hb dL_law_242 (by decide) ?_
    refine lv_icmp_ge (tgt := 267) hx hb dL_law_243 (by decide) (fun _ => ?_) (fun h => absurd (by decide) h)
    refine lv_iload hx hb dL_law_267 (lv_at hl 2 rfl) ?_
    refine lv_bipush (v := 12) hx hb dL_law_269 (by decide) ?_
    refine lv_icmp_ge (tgt := 337) hx hb dL_law_271 (by decide) (fun _ => ?_) (fun h => absurd (by decide) h)
    refine lv_iload hx hb dL_law_337 (lv_at hl 2 rfl) ?_
    refine lv_bipush (v := 24) hx hb dL_law_339 (by decide) ?_
    refine lv_icmp_ge (tgt := 399) hx hb dL_law_341 (by decide) (fun _ => ?_) (fun h => absurd (by decide) h)
    refine lv_aload_n hx hb dL_law_399 rfl (lv_at hl 6 rfl) ?_
    refine lv_aload_n hx hb dL_law_400 rfl (lv_at hl 7 rfl) ?_
    refine lv_aload_n hx hb dL_law_401 rfl (lv_at hl 8 rfl) ?_
    refine lv_aload hx hb dL_law_402 (lv_at hl 9 rfl) ?_
    refine lv_aload hx hb dL_law_404 (lv_at hl 10 rfl) ?_
    refine lv_aload hx hb dL_law_406 (lv_at hl 11 rfl) ?_
    refine lv_aload hx hb dL_law_408 (lv_at hl 12 rfl) ?_
    refine lv_aload hx hb dL_law_410 (lv_at hl 13 rfl) ?_
    refine lv_iload hx hb dL_law_412 (lv_at hl 2 rfl) ?_
    refine lv_bipush (v := 26) hx hb dL_law_414 (by decide) ?_
    refine lv_icmp_ge (tgt := 423) hx hb dL_law_416 (by decide) (fun _ => ?_) (fun h => absurd (by decide) h)
    refine lv_iload hx hb dL_law_423 (lv_at hl 2 rfl) ?_
    refine lv_bipush (v := 26) hx hb dL_law_425 (by decide) ?_
    refine lv_icmp_ne (tgt := 434) hx hb dL_law_427 (by decide) (fun _ => ?_) (fun h => absurd h (by decide))
    refine lv_iload hx hb dL_law_434 (lv_at hl 2 rfl) ?_
    refine lv_bipush (v := 27) hx hb dL_law_436 (by decide) ?_
    refine lv_icmp_ne (tgt := 445) hx hb dL_law_438 (by decide) (fun _ => ?_) (fun h => absurd h (by decide))
    refine lv_iconst (v := 3) hx hb dL_law_445 (by decide) ?_
    refine lv_iload hx hb dL_law_446 (lv_at hl 1 rfl) ?_
    refine lv_iload hx hb dL_law_448 (lv_at hl 0 rfl) ?_
    refine fx_callS (rest := []) (as := [.ref (Z.A 0 0), .ref (la 0), .ref (la 1), .ref (la 2), .ref (la 3), .ref (la 4), .ref (la 5), .ref (la 6), .int 3, .int one, .int two]) hx hb hml hts hown hK hE hI (qT_3 G hst0 hR (by omega) one two h1 h2) kw_176 ⟨(Nat.le_of_ble_eq_true rfl), (Nat.le_of_ble_eq_true rfl)⟩ hl.1 (Nat.le_of_ble_eq_true rfl) dL_law_450 ⟨by show 1000 + 388 * n + 5 ≤ 799779; omega, by show 10000 + 3100 * n + 802 ≤ 6702131; omega⟩ (fun v w9 H locs hp hI => ?_)
    obtain ⟨rfl, Z9, S9, M9, L9, hR9, hA9, rfl⟩ := hp
    refine lv_istore (lv' := [(9, .int 1), (13, .int two), (12, .int one), (11, .int 31), (10, .int (nI n)), (0, .ref b), (1, .ref (Z.A 0 0)), (2, .ref (la 0)), (3, .ref (la 1)), (4, .ref (la 2)), (5, .ref (la 3)), (6, .ref (la 4)), (7, .ref (la 5)), (8, .ref (la 6))]) hx hb dL_law_453 hl (by decide) rfl (fun ls hl => ?_)
    exact K Z9 S9 M9 L9 H locs ls hR9 (hA9.trans hx0) hI (by rw [← hx0]; exact lv_sub hl [0, 4, 5, 6, 7, 8, 9, 10, 11, 12, 13] rfl)
  · have hl : lv_has ls 14 [(13, .int two), (12, .int one), (11, .int 32), (9, .int 1), (10, .int (nI n)), (0, .ref b), (1, .ref (Z.A 0 0)), (2, .ref (la 0)), (3, .ref (la 1)), (4, .ref (la 2)), (5, .ref (la 3)), (6, .ref (la 4)), (7, .ref (la 5)), (8, .ref (la 6))] := hl
    refine lv_iload hx hb dL_law_240 (lv_at hl 2 rfl) ?_
    refine lv_iconst (v := 2) hx hb dL_law_242 (by decide) ?_
    refine lv_icmp_ge (tgt := 267) hx hb dL_law_243 (by decide) (fun _ => ?_) (fun h => absurd (by decide) h)
    refine lv_iload hx hb dL_law_267 (lv_at hl 2 rfl) ?_
    refine lv_bipush (v := 12) hx hb dL_law_269 (by decide) ?_
    refine lv_icmp_ge (tgt := 337) hx hb dL_law_271 (by decide) (fun _ => ?_) (fun h => absurd (by decide) h)
    refine lv_iload hx hb dL_law_337 (lv_at hl 2 rfl) ?_
    refine lv_bipush (v := 24) hx hb dL_law_339 (by decide) ?_
    refine lv_icmp_ge (tgt := 399) hx hb dL_law_341 (by decide) (fun _ => ?_) (fun h => absurd (by decide) h)
    refine lv_aload_n hx hb dL_law_399 rfl (lv_at hl 6 rfl) ?_
    refine lv_aload_n hx hb dL_law_400 rfl (lv_at hl 7 rfl) ?_
    refine lv_aload_n hx hb dL_law_401 rfl (lv_at hl 8 rfl) ?_
    refine lv_aload hx hb dL_law_402 (lv_at hl 9 rfl) ?_
    refine lv_aload hx hb dL_law_404 (lv_at hl 10 rfl) ?_
    refine lv_aload hx hb dL_law_406 (lv_at hl 11 rfl) ?_
    refine lv_aload hx hb dL_law_408 (lv_at hl 12 rfl) ?_
    refine lv_aload hx hb dL_law_410 (lv_at hl 13 rfl) ?_
    refine lv_iload hx hb dL_law_412 (lv_at hl 2 rfl) ?_
    refine lv_bipush (v := 26) hx hb dL_law_414 (by decide) ?_
    refine lv_icmp_ge (tgt := 423) hx hb dL_law_416 (by decide) (fun _ => ?_) (fun h => absurd (by decide) h)
    refine lv_iload hx hb dL_law_423 (lv_at hl 2 rfl) ?_
    refine lv_bipush (v := 26) hx hb dL_law_425 (by decide) ?_
    refine lv_icmp_ne (tgt := 434) hx hb dL_law_427 (by decide) (fun _ => ?_) (fun h => absurd h (by decide))
    refine lv_iload hx hb dL_law_434 (lv_at hl 2 rfl) ?_
    refine lv_bipush (v := 27) hx hb dL_law_436 (by decide) ?_
    refine lv_icmp_ne (tgt := 445) hx hb dL_law_438 (by decide) (fun _ => ?_) (fun h => absurd h (by decide))
    refine lv_iconst (v := 3) hx hb dL_law_445 (by decide) ?_
    refine lv_iload hx hb dL_law_446 (lv_at hl 1 rfl) ?_
    refine lv_iload hx hb dL_law_448 (lv_at hl 0 rfl) ?_
    refine fx_callS (rest := []) (as := [.ref (Z.A 0 0), .ref (la 0), .ref (la 1), .ref (la 2), .ref (la 3), .ref (la 4), .ref (la 5), .ref (la 6), .int 3, .int one, .int two]) hx hb hml hts hown hK hE hI (qT_3 G hst0 hR (by omega) one two h1 h2) kw_176 ⟨(Nat.le_of_ble_eq_true rfl), (Nat.le_of_ble_eq_true rfl)⟩ hl.1 (Nat.le_of_ble_eq_true rfl) dL_law_450 ⟨by show 1000 + 388 * n + 5 ≤ 799779; omega, by show 10000 + 3100 * n + 802 ≤ 6702131; omega⟩ (fun v w9 H locs hp hI => ?_)
    obtain ⟨rfl, Z9, S9, M9, L9, hR9, hA9, rfl⟩ := hp
    refine lv_istore (lv' := [(9, .int 1), (13, .int two), (12, .int one), (11, .int 32), (10, .int (nI n)), (0, .ref b), (1, .ref (Z.A 0 0)), (2, .ref (la 0)), (3, .ref (la 1)), (4, .ref (la 2)), (5, .ref (la 3)), (6, .ref (la 4)), (7, .ref (la 5)), (8, .ref (la 6))]) hx hb dL_law_453 hl (by decide) rfl (fun ls hl => ?_)
    exact K Z9 S9 M9 L9 H locs ls hR9 (hA9.trans hx0) hI (by rw [← hx0]; exact lv_sub hl [0, 4, 5, 6, 7, 8, 9, 10, 11, 12, 13] rfl)
  · have hl : lv_has ls 14 [(13, .int two), (12, .int one), (11, .int 33), (9, .int 1), (10, .int (nI n)), (0, .ref b), (1, .ref (Z.A 0 0)), (2, .ref (la 0)), (3, .ref (la 1)), (4, .ref (la 2)), (5, .ref (la 3)), (6, .ref (la 4)), (7, .ref (la 5)), (8, .ref (la 6))] := hl
    refine lv_iload hx hb dL_law_240 (lv_at hl 2 rfl) ?_
    refine lv_iconst (v := 2) hx hb dL_law_242 (by decide) ?_
    refine lv_icmp_ge (tgt := 267) hx hb dL_law_243 (by decide) (fun _ => ?_) (fun h => absurd (by decide) h)
    refine lv_iload hx hb dL_law_267 (lv_at hl 2 rfl) ?_
    refine lv_bipush (v := 12) hx hb dL_law_269 (by decide) ?_
    refine lv_icmp_ge (tgt := 337) hx hb dL_law_271 (by decide) (fun _ => ?_) (fun h => absurd (by decide) h)
    refine lv_iload hx hb dL_law_337 (lv_at hl 2 rfl) ?_
    refine lv_bipush (v := 24) hx hb dL_law_339 (by decide) ?_
    refine lv_icmp_ge (tgt := 399) hx hb dL_law_341 (by decide) (fun _ => ?_) (fun h => absurd (by decide) h)
    refine lv_aload_n hx hb dL_law_399 rfl (lv_at hl 6 rfl) ?_
    refine lv_aload_n hx hb dL_law_400 rfl (lv_at hl 7 rfl) ?_
    refine lv_aload_n hx hb dL_law_401 rfl (lv_at hl 8 rfl) ?_
    refine lv_aload hx hb dL_law_402 (lv_at hl 9 rfl) ?_
    refine lv_aload hx hb dL_law_404 (lv_at hl 10 rfl) ?_
    refine lv_aload hx hb dL_law_406 (lv_at hl 11 rfl) ?_
    refine lv_aload hx hb dL_law_408 (lv_at hl 12 rfl) ?_
    refine lv_aload hx hb dL_law_410 (lv_at hl 13 rfl) ?_
    refine lv_iload hx hb dL_law_412 (lv_at hl 2 rfl) ?_
    refine lv_bipush (v := 26) hx hb dL_law_414 (by decide) ?_
    refine lv_icmp_ge (tgt := 423) hx hb dL_law_416 (by decide) (fun _ => ?_) (fun h => absurd (by decide) h)
    refine lv_iload hx hb dL_law_423 (lv_at hl 2 rfl) ?_
    refine lv_bipush (v := 26) hx hb dL_law_425 (by decide) ?_
    refine lv_icmp_ne (tgt := 434) hx hb dL_law_427 (by decide) (fun _ => ?_) (fun h => absurd h (by decide))
    refine lv_iload hx hb dL_law_434 (lv_at hl 2 rfl) ?_
    refine lv_bipush (v := 27) hx hb dL_law_436 (by decide) ?_
    refine lv_icmp_ne (tgt := 445) hx hb dL_law_438 (by decide) (fun _ => ?_) (fun h => absurd h (by decide))
    refine lv_iconst (v := 3) hx hb dL_law_445 (by decide) ?_
    refine lv_iload hx hb dL_law_446 (lv_at hl 1 rfl) ?_
    refine lv_iload hx hb dL_law_448 (lv_at hl 0 rfl) ?_
    refine fx_callS (rest := []) (as := [.ref (Z.A 0 0), .ref (la 0), .ref (la 1), .ref (la 2), .ref (la 3), .ref (la 4), .ref (la 5), .ref (la 6), .int 3, .int one, .int two]) hx hb hml hts hown hK hE hI (qT_3 G hst0 hR (by omega) one two h1 h2) kw_176 ⟨(Nat.le_of_ble_eq_true rfl), (Nat.le_of_ble_eq_true rfl)⟩ hl.1 (Nat.le_of_ble_eq_true rfl) dL_law_450 ⟨by show 1000 + 388 * n + 5 ≤ 799779; omega, by show 10000 + 3100 * n + 802 ≤ 6702131; omega⟩ (fun v w9 H locs hp hI => ?_)
    obtain ⟨rfl, Z9, S9, M9, L9, hR9, hA9, rfl⟩ := hp
    refine lv_istore (lv' := [(9, .int 1), (13, .int two), (12, .int one), (11, .int 33), (10, .int (nI n)), (0, .ref b), (1, .ref (Z.A 0 0)), (2, .ref (la 0)), (3, .ref (la 1)), (4, .ref (la 2)), (5, .ref (la 3)), (6, .ref (la 4)), (7, .ref (la 5)), (8, .ref (la 6))]) hx hb dL_law_453 hl (by decide) rfl (fun ls hl => ?_)
    exact K Z9 S9 M9 L9 H locs ls hR9 (hA9.trans hx0) hI (by rw [← hx0]; exact lv_sub hl [0, 4, 5, 6, 7, 8, 9, 10, 11, 12, 13] rfl)
  · have hl : lv_has ls 14 [(13, .int two), (12, .int one), (11, .int 34), (9, .int 1), (10, .int (nI n)), (0, .ref b), (1, .ref (Z.A 0 0)), (2, .ref (la 0)), (3, .ref (la 1)), (4, .ref (la 2)), (5, .ref (la 3)), (6, .ref (la 4)), (7, .ref (la 5)), (8, .ref (la 6))] := hl
    refine lv_iload hx hb dL_law_240 (lv_at hl 2 rfl) ?_
    refine lv_iconst (v := 2) hx hb dL_law_242 (by decide) ?_
    refine lv_icmp_ge (tgt := 267) hx hb dL_law_243 (by decide) (fun _ => ?_) (fun h => absurd (by decide) h)
    refine lv_iload hx hb dL_law_267 (lv_at hl 2 rfl) ?_
    refine lv_bipush (v := 12) hx hb dL_law_269 (by decide) ?_
    refine lv_icmp_ge (tgt := 337) hx hb dL_law_271 (by decide) (fun _ => ?_) (fun h => absurd (by decide) h)
    refine lv_iload hx hb dL_law_337 (lv_at hl 2 rfl) ?_
    refine lv_bipush (v := 24) hx hb dL_law_339 (by decide) ?_
    refine lv_icmp_ge (tgt := 399) hx hb dL_law_341 (by decide) (fun _ => ?_) (fun h => absurd (by decide) h)
    refine lv_aload_n hx hb dL_law_399 rfl (lv_at hl 6 rfl) ?_
    refine lv_aload_n hx hb dL_law_400 rfl (lv_at hl 7 rfl) ?_
    refine lv_aload_n hx hb dL_law_401 rfl (lv_at hl 8 rfl) ?_
    refine lv_aload hx hb dL_law_402 (lv_at hl 9 rfl) ?_
    refine lv_aload hx hb dL_law_404 (lv_at hl 10 rfl) ?_
    refine lv_aload hx hb dL_law_406 (lv_at hl 11 rfl) ?_
    refine lv_aload hx hb dL_law_408 (lv_at hl 12 rfl) ?_
    refine lv_aload hx hb dL_law_410 (lv_at hl 13 rfl) ?_
    refine lv_iload hx hb dL_law_412 (lv_at hl 2 rfl) ?_
    refine lv_bipush (v := 26) hx hb dL_law_414 (by decide) ?_
    refine lv_icmp_ge (tgt := 423) hx hb dL_law_416 (by decide) (fun _ => ?_) (fun h => absurd (by decide) h)
    refine lv_iload hx hb dL_law_423 (lv_at hl 2 rfl) ?_
    refine lv_bipush (v := 26) hx hb dL_law_425 (by decide) ?_
    refine lv_icmp_ne (tgt := 434) hx hb dL_law_427 (by decide) (fun _ => ?_) (fun h => absurd h (by decide))
    refine lv_iload hx hb dL_law_434 (lv_at hl 2 rfl) ?_
    refine lv_bipush (v := 27) hx hb dL_law_436 (by decide) ?_
    refine lv_icmp_ne (tgt := 445) hx hb dL_law_438 (by decide) (fun _ => ?_) (fun h => absurd h (by decide))
    refine lv_iconst (v := 3) hx hb dL_law_445 (by decide) ?_
    refine lv_iload hx hb dL_law_446 (lv_at hl 1 rfl) ?_
    refine lv_iload hx hb dL_law_448 (lv_at hl 0 rfl) ?_
    refine fx_callS (rest := []) (as := [.ref (Z.A 0 0), .ref (la 0), .ref (la 1), .ref (la 2), .ref (la 3), .ref (la 4), .ref (la 5), .ref (la 6), .int 3, .int one, .int two]) hx hb hml hts hown hK hE hI (qT_3 G hst0 hR (by omega) one two h1 h2) kw_176 ⟨(Nat.le_of_ble_eq_true rfl), (Nat.le_of_ble_eq_true rfl)⟩ hl.1 (Nat.le_of_ble_eq_true rfl) dL_law_450 ⟨by show 1000 + 388 * n + 5 ≤ 799779; omega, by show 10000 + 3100 * n + 802 ≤ 6702131; omega⟩ (fun v w9 H locs hp hI => ?_)
    obtain ⟨rfl, Z9, S9, M9, L9, hR9, hA9, rfl⟩ := hp
    refine lv_istore (lv' := [(9, .int 1), (13, .int two), (12, .int one), (11, .int 34), (10, .int (nI n)), (0, .ref b), (1, .ref (Z.A 0 0)), (2, .ref (la 0)), (3, .ref (la 1)), (4, .ref (la 2)), (5, .ref (la 3)), (6, .ref (la 4)), (7, .ref (la 5)), (8, .ref (la 6))]) hx hb dL_law_453 hl (by decide) rfl (fun ls hl => ?_)
    exact K Z9 S9 M9 L9 H locs ls hR9 (hA9.trans hx0) hI (by rw [← hx0]; exact lv_sub hl [0, 4, 5, 6, 7, 8, 9, 10, 11, 12, 13] rfl)
  · have hl : lv_has ls 14 [(13, .int two), (12, .int one), (11, .int 35), (9, .int 1), (10, .int (nI n)), (0, .ref b), (1, .ref (Z.A 0 0)), (2, .ref (la 0)), (3, .ref (la 1)), (4, .ref (la 2)), (5, .ref (la 3)), (6, .ref (la 4)), (7, .ref (la 5)), (8, .ref (la 6))] := hl
    refine lv_iload hx hb dL_law_240 (lv_at hl 2 rfl) ?_
    refine lv_iconst (v := 2) hx hb dL_law_242 (by decide) ?_
    refine lv_icmp_ge (tgt := 267) hx hb dL_law_243 (by decide) (fun _ => ?_) (fun h => absurd (by decide) h)
    refine lv_iload hx hb dL_law_267 (lv_at hl 2 rfl) ?_
    refine lv_bipush (v := 12) hx hb dL_law_269 (by decide) ?_
    refine lv_icmp_ge (tgt := 337) hx hb dL_law_271 (by decide) (fun _ => ?_) (fun h => absurd (by decide) h)
    refine lv_iload hx hb dL_law_337 (lv_at hl 2 rfl) ?_
    refine lv_bipush (v := 24) hx hb dL_law_339 (by decide) ?_
    refine lv_icmp_ge (tgt := 399) hx hb dL_law_341 (by decide) (fun _ => ?_) (fun h => absurd (by decide) h)
    refine lv_aload_n hx hb dL_law_399 rfl (lv_at hl 6 rfl) ?_
    refine lv_aload_n hx hb dL_law_400 rfl (lv_at hl 7 rfl) ?_
    refine lv_aload_n hx hb dL_law_401 rfl (lv_at hl 8 rfl) ?_
    refine lv_aload hx hb dL_law_402 (lv_at hl 9 rfl) ?_
    refine lv_aload hx hb dL_law_404 (lv_at hl 10 rfl) ?_
    refine lv_aload hx hb dL_law_406 (lv_at hl 11 rfl) ?_
    refine lv_aload hx hb dL_law_408 (lv_at hl 12 rfl) ?_
    refine lv_aload hx hb dL_law_410 (lv_at hl 13 rfl) ?_
    refine lv_iload hx hb dL_law_412 (lv_at hl 2 rfl) ?_
    refine lv_bipush (v := 26) hx hb dL_law_414 (by decide) ?_
    refine lv_icmp_ge (tgt := 423) hx hb dL_law_416 (by decide) (fun _ => ?_) (fun h => absurd (by decide) h)
    refine lv_iload hx hb dL_law_423 (lv_at hl 2 rfl) ?_
    refine lv_bipush (v := 26) hx hb dL_law_425 (by decide) ?_
    refine lv_icmp_ne (tgt := 434) hx hb dL_law_427 (by decide) (fun _ => ?_) (fun h => absurd h (by decide))
    refine lv_iload hx hb dL_law_434 (lv_at hl 2 rfl) ?_
    refine lv_bipush (v := 27) hx hb dL_law_436 (by decide) ?_
    refine lv_icmp_ne (tgt := 445) hx hb dL_law_438 (by decide) (fun _ => ?_) (fun h => absurd h (by decide))
    refine lv_iconst (v := 3) hx hb dL_law_445 (by decide) ?_
    refine lv_iload hx hb dL_law_446 (lv_at hl 1 rfl) ?_
    refine lv_iload hx hb dL_law_448 (lv_at hl 0 rfl) ?_
    refine fx_callS (rest := []) (as := [.ref (Z.A 0 0), .ref (la 0), .ref (la 1), .ref (la 2), .ref (la 3), .ref (la 4), .ref (la 5), .ref (la 6), .int 3, .int one, .int two]) hx hb hml hts hown hK hE hI (qT_3 G hst0 hR (by omega) one two h1 h2) kw_176 ⟨(Nat.le_of_ble_eq_true rfl), (Nat.le_of_ble_eq_true rfl)⟩ hl.1 (Nat.le_of_ble_eq_true rfl) dL_law_450 ⟨by show 1000 + 388 * n + 5 ≤ 799779; omega, by show 10000 + 3100 * n + 802 ≤ 6702131; omega⟩ (fun v w9 H locs hp hI => ?_)
    obtain ⟨rfl, Z9, S9, M9, L9, hR9, hA9, rfl⟩ := hp
    refine lv_istore (lv' := [(9, .int 1), (13, .int two), (12, .int one), (11, .int 35), (10, .int (nI n)), (0, .ref b), (1, .ref (Z.A 0 0)), (2, .ref (la 0)), (3, .ref (la 1)), (4, .ref (la 2)), (5, .ref (la 3)), (6, .ref (la 4)), (7, .ref (la 5)), (8, .ref (la 6))]) hx hb dL_law_453 hl (by decide) rfl (fun ls hl => ?_)
    exact K Z9 S9 M9 L9 H locs ls hR9 (hA9.trans hx0) hI (by rw [← hx0]; exact lv_sub hl [0, 4, 5, 6, 7, 8, 9, 10, 11, 12, 13] rfl)
set_option maxHeartbeats 8000000 in
set_option maxRecDepth 100000 in
theorem law_turn {p : Program} {e : Env} {s : State} {m : MethodId} {below : List Frame} {meth : Method} {c : Code} {b L : Nat} {xs : Nat → Int32} {Q : State → Prop} {G : GX} {A : Nat → Prop} (C0 : LCtx p s m c b L xs G A) (hL : L ≤ 260) {la : Nat → Nat} {x0 n : Nat} (hn : n < 64) {Z : XZ} {S : XS} {M : MS} {L0 : LwS} {H : Heap} {locs : List Loc} {ls : Array Slot} (hR : RR Z S M L0 (4 + n)) (hx0 : Z.A 0 0 = x0) (hI : fI G.2.2.1 A s.heap (jn (xW G.2.2.2 G.2.1 Z S) (lW G.2.2.2 la L0)) H locs) (hl : lv_has ls 14 [(9, .int 1), (10, .int (nI n)), (0, .ref b), (1, .ref x0), (2, .ref (la 0)), (3, .ref (la 1)), (4, .ref (la 2)), (5, .ref (la 3)), (6, .ref (la 4)), (7, .ref (la 5)), (8, .ref (la 6))]) (K : ∀ (Z : XZ) (S : XS) (M : MS) (L0 : LwS) (H : Heap) (locs : List Loc) (ls : Array Slot), RR Z S M L0 (4 + n + 1) → Z.A 0 0 = x0 → fI G.2.2.1 A s.heap (jn (xW G.2.2.2 G.2.1 Z S) (lW G.2.2.2 la L0)) H locs → lv_has ls 14 [(9, .int 1), (10, .int (nI n)), (0, .ref b), (1, .ref x0), (2, .ref (la 0)), (3, .ref (la 1)), (4, .ref (la 2)), (5, .ref (la 3)), (6, .ref (la 4)), (7, .ref (la 5)), (8, .ref (la 6))] → W p G.1 e room_1 s m #[Value.ref b] below meth c H locs (1000 + 388 * n + 5) (10000 + 3100 * n + 802) Q (F0 m 455 ls [])) : W p G.1 e room_1 s m #[Value.ref b] below meth c H locs (1000 + 388 * n) (10000 + 3100 * n) Q (F0 m 143 ls []) := by
  obtain ⟨hx, hb, hml, hts, hown, hK, hE, hX, hbl, hbA, hst0⟩ := id C0
  have h210 : ∀ (what : Int32) (H : Heap) (locs : List Loc), nB what 36 → fI G.2.2.1 A s.heap (jn (xW G.2.2.2 G.2.1 Z S) (lW G.2.2.2 la L0)) H locs → W p G.1 e room_1 s m #[Value.ref b] below meth c H locs (1000 + 388 * n) (10000 + 3100 * n) Q (F0 m 210 ls [.int what]) := by
    intro what H locs h0 hI
    refine lv_istore (lv' := [(11, .int what), (9, .int 1), (10, .int (nI n)), (0, .ref b), (1, .ref x0), (2, .ref (la 0)), (3, .ref (la 1)), (4, .ref (la 2)), (5, .ref (la 3)), (6, .ref (la 4)), (7, .ref (la 5)), (8, .ref (la 6))]) hx hb dL_law_210 hl (by decide) rfl (fun ls hl => ?_)
    refine lv_aload_n hx hb dL_law_212 rfl (lv_at hl 3 rfl) ?_
    refine lv_iconst (v := 3) hx hb dL_law_213 (by decide) ?_
    refine lv_iload hx hb dL_law_214 (lv_at hl 2 rfl) ?_
    refine lv_imul hx hb dL_law_216 ?_
    rw [show (3 : Int32) * nI n = nI (3 * n) from nI_3 n]
    refine lv_iconst (v := 1) hx hb dL_law_217 (by decide) ?_
    refine lv_iadd hx hb dL_law_218 ?_
    rw [show nI (3 * n) + (1 : Int32) = nI (3 * n + 1) from nI_add _ 1]
    refine lv_ldc (v := 60000) hx hb hown (hts _ q677) dL_law_219 ?_
    refine call_part hL (3 * n + 1) 60000 (by omega) (by decide) (by decide) hx hb hml hts hown hK hE hX hbl hbA hI ⟨(Nat.le_of_ble_eq_true rfl), (Nat.le_of_ble_eq_true rfl)⟩ hl.1 (Nat.le_of_ble_eq_true rfl) dL_law_221 ⟨by show 1000 + 388 * n ≤ 799779; omega, by show 10000 + 3100 * n ≤ 6702131; omega⟩ (fun one H locs hone hI => ?_)
    refine lv_istore (lv' := [(12, .int one), (11, .int what), (9, .int 1), (10, .int (nI n)), (0, .ref b), (1, .ref x0), (2, .ref (la 0)), (3, .ref (la 1)), (4, .ref (la 2)), (5, .ref (la 3)), (6, .ref (la 4)), (7, .ref (la 5)), (8, .ref (la 6))]) hx hb dL_law_224 hl (by decide) rfl (fun ls hl => ?_)
    refine lv_aload_n hx hb dL_law_226 rfl (lv_at hl 4 rfl) ?_
    refine lv_iconst (v := 3) hx hb dL_law_227 (by decide) ?_
    refine lv_iload hx hb dL_law_228 (lv_at hl 3 rfl) ?_
    refine lv_imul hx hb dL_law_230 ?_
    rw [show (3 : Int32) * nI n = nI (3 * n) from nI_3 n]
    refine lv_iconst (v := 2) hx hb dL_law_231 (by decide) ?_
    refine lv_iadd hx hb dL_law_232 ?_
    rw [show nI (3 * n) + (2 : Int32) = nI (3 * n + 2) from nI_add _ 2]
    refine lv_ldc (v := 60000) hx hb hown (hts _ q677) dL_law_233 ?_
    refine call_part hL (3 * n + 2) 60000 (by omega) (by decide) (by decide) hx hb hml hts hown hK hE hX hbl hbA hI ⟨(Nat.le_of_ble_eq_true rfl), (Nat.le_of_ble_eq_true rfl)⟩ hl.1 (Nat.le_of_ble_eq_true rfl) dL_law_235 ⟨by show 1000 + 388 * n ≤ 799779; omega, by show 10000 + 3100 * n ≤ 6702131; omega⟩ (fun two H locs htwo hI => ?_)
    refine lv_istore (lv' := [(13, .int two), (12, .int one), (11, .int what), (9, .int 1), (10, .int (nI n)), (0, .ref b), (1, .ref x0), (2, .ref (la 0)), (3, .ref (la 1)), (4, .ref (la 2)), (5, .ref (la 3)), (6, .ref (la 4)), (7, .ref (la 5)), (8, .ref (la 6))]) hx hb dL_law_238 hl (by decide) rfl (fun ls hl => ?_)
    exact law_240 C0 hL hn hR hx0 hI h0 hone htwo hl K
  refine lv_iload hx hb dL_law_143 (lv_at hl 1 rfl) ?_
  refine lv_bipush (v := 64) hx hb dL_law_145 (by decide) ?_
  refine lv_icmp_ge (tgt := 492) hx hb dL_law_147 (by decide) (fun h => absurd ((nI_leI (a := 64) (by decide) (by omega)).mp h) (by omega)) (fun _ => ?_)
  refine lv_iload hx hb dL_law_150 (lv_at hl 0 rfl) ?_
  refine lv_if_eq (tgt := 492) hx hb dL_law_152 (by decide) (fun h => absurd h (by decide)) (fun _ => ?_)
  refine lv_iload hx hb dL_law_155 (lv_at hl 1 rfl) ?_
  refine lv_iconst (v := 3) hx hb dL_law_157 (by decide) ?_
  refine lv_icmp_ge (tgt := 165) hx hb dL_law_158 (by decide) (fun _ => ?_) (fun _ => ?_)
  rotate_left
  · refine lv_iconst (v := 0) hx hb dL_law_161 (by decide) ?_
    refine lv_goto (tgt := 210) hx hb dL_law_162 (by decide) ?_
    exact h210 0 H locs (nB_lit 0 rfl (by decide)) hI
  refine lv_iload hx hb dL_law_165 (lv_at hl 1 rfl) ?_
  refine lv_iconst (v := 5) hx hb dL_law_167 (by decide) ?_
  refine lv_icmp_ge (tgt := 176) hx hb dL_law_168 (by decide) (fun _ => ?_) (fun _ => ?_)
  rotate_left
  · refine lv_bipush (v := 12) hx hb dL_law_171 (by decide) ?_
    refine lv_goto (tgt := 210) hx hb dL_law_173 (by decide) ?_
    exact h210 12 H locs (nB_lit 12 rfl (by decide)) hI
  refine lv_iload hx hb dL_law_176 (lv_at hl 1 rfl) ?_
  refine lv_bipush (v := 8) hx hb dL_law_178 (by decide) ?_
  refine lv_icmp_ge (tgt := 188) hx hb dL_law_180 (by decide) (fun _ => ?_) (fun _ => ?_)
  rotate_left
  · refine lv_bipush (v := 30) hx hb dL_law_183 (by decide) ?_
    refine lv_goto (tgt := 210) hx hb dL_law_185 (by decide) ?_
    exact h210 30 H locs (nB_lit 30 rfl (by decide)) hI
  refine lv_iload hx hb dL_law_188 (lv_at hl 1 rfl) ?_
  refine lv_bipush (v := 12) hx hb dL_law_190 (by decide) ?_
  refine lv_icmp_ge (tgt := 200) hx hb dL_law_192 (by decide) (fun _ => ?_) (fun _ => ?_)
  rotate_left
  · refine lv_bipush (v := 14) hx hb dL_law_195 (by decide) ?_
    refine lv_goto (tgt := 210) hx hb dL_law_197 (by decide) ?_
    exact h210 14 H locs (nB_lit 14 rfl (by decide)) hI
  refine lv_aload_n hx hb dL_law_200 rfl (lv_at hl 2 rfl) ?_
  refine lv_iconst (v := 3) hx hb dL_law_201 (by decide) ?_
  refine lv_iload hx hb dL_law_202 (lv_at hl 1 rfl) ?_
  refine lv_imul hx hb dL_law_204 ?_
  rw [show (3 : Int32) * nI n = nI (3 * n) from nI_3 n]
  refine lv_bipush (v := 36) hx hb dL_law_205 (by decide) ?_
  refine call_part hL (3 * n) 36 (by omega) (by decide) (by decide) hx hb hml hts hown hK hE hX hbl hbA hI ⟨(Nat.le_of_ble_eq_true rfl), (Nat.le_of_ble_eq_true rfl)⟩ hl.1 (Nat.le_of_ble_eq_true rfl) dL_law_207 ⟨by show 1000 + 388 * n ≤ 799779; omega, by show 10000 + 3100 * n ≤ 6702131; omega⟩ (fun what H locs hwhat hI => ?_)
  exact h210 what H locs hwhat hI
set_option maxHeartbeats 8000000 in
set_option maxRecDepth 100000 in
theorem law_loop {p : Program} {e : Env} {s : State} {m : MethodId} {below : List Frame} {meth : Method} {c : Code} {b L : Nat} {xs : Nat → Int32} {Q : State → Prop} {G : GX} {A : Nat → Prop} (C0 : LCtx p s m c b L xs G A) (hL : L ≤ 260) {la : Nat → Nat} {x0 : Nat} (KE : ∀ (H : Heap) (locs : List Loc) (ls : Array Slot) (cells slots : Nat), va_S A s.heap H locs → cells ≤ 799779 → slots ≤ 6702131 → W p G.1 e room_1 s m #[Value.ref b] below meth c H locs cells slots Q (F0 m 494 ls [.int 1])) : ∀ (k n : Nat), n + k = 64 → ∀ (Z : XZ) (S : XS) (M : MS) (L0 : LwS) (H : Heap) (locs : List Loc) (ls : Array Slot), RR Z S M L0 (4 + n) → Z.A 0 0 = x0 → fI G.2.2.1 A s.heap (jn (xW G.2.2.2 G.2.1 Z S) (lW G.2.2.2 la L0)) H locs → lv_has ls 14 [(9, .int 1), (10, .int (nI n)), (0, .ref b), (1, .ref x0), (2, .ref (la 0)), (3, .ref (la 1)), (4, .ref (la 2)), (5, .ref (la 3)), (6, .ref (la 4)), (7, .ref (la 5)), (8, .ref (la 6))] → W p G.1 e room_1 s m #[Value.ref b] below meth c H locs (1000 + 388 * n) (10000 + 3100 * n) Q (F0 m 143 ls []) := by
  obtain ⟨hx, hb, hml, hts, hown, hK, hE, hX, hbl, hbA, hst0⟩ := id C0
  intro k
  induction k with
  | zero =>
    intro n hk Z S M L0 H locs ls hR hx0 hI hl
    have en : n = 64 := by omega
    subst en
    refine lv_iload hx hb dL_law_143 (lv_at hl 1 rfl) ?_
    refine lv_bipush (v := 64) hx hb dL_law_145 (by decide) ?_
    refine lv_icmp_ge (tgt := 492) hx hb dL_law_147 (by decide) (fun _ => ?_) (fun h => absurd (by decide) h)
    refine lv_iload hx hb dL_law_492 (lv_at hl 0 rfl) ?_
    exact KE H locs ls _ _ hI.2.2.1 (by decide) (by decide)
  | succ k ih =>
    intro n hk Z S M L0 H locs ls hR hx0 hI hl
    have hn : n < 64 := by omega
    refine law_turn C0 hL hn hR hx0 hI hl (fun Z S M L0 H locs ls hR hx0 hI hl => ?_)
    rw [← hx0] at hl
    refine lv_iload hx hb dL_law_455 (lv_at hl 0 rfl) ?_
    refine lv_if_eq (tgt := 483) hx hb dL_law_457 (by decide) (fun h => absurd h (by decide)) (fun _ => ?_)
    refine lv_aload_n hx hb dL_law_460 rfl (lv_at hl 3 rfl) ?_
    refine lv_aload_n hx hb dL_law_461 rfl (lv_at hl 4 rfl) ?_
    refine lv_aload_n hx hb dL_law_462 rfl (lv_at hl 5 rfl) ?_
    refine lv_aload hx hb dL_law_463 (lv_at hl 6 rfl) ?_
    refine lv_aload hx hb dL_law_465 (lv_at hl 7 rfl) ?_
    refine lv_aload hx hb dL_law_467 (lv_at hl 8 rfl) ?_
    refine lv_aload hx hb dL_law_469 (lv_at hl 9 rfl) ?_
    refine lv_aload hx hb dL_law_471 (lv_at hl 10 rfl) ?_
    refine fx_callS (rest := []) (as := [.ref (Z.A 0 0), .ref (la 0), .ref (la 1), .ref (la 2), .ref (la 3), .ref (la 4), .ref (la 5), .ref (la 6)]) hx hb hml hts hown hK hE hI (qS G hst0 hR (by omega)) kw_180 ⟨(Nat.le_of_ble_eq_true rfl), (Nat.le_of_ble_eq_true rfl)⟩ hl.1 (Nat.le_of_ble_eq_true rfl) dL_law_473 ⟨by show 1000 + 388 * n + 5 + 383 ≤ 799779; omega, by show 10000 + 3100 * n + 802 + 2298 ≤ 6702131; omega⟩ (fun v w9 H locs hp hI => ?_)
    obtain ⟨rfl, rfl⟩ := hp
    refine lv_if_eq (tgt := 483) hx hb dL_law_476 (by decide) (fun h => absurd h (by decide)) (fun _ => ?_)
    refine lv_iconst (v := 1) hx hb dL_law_479 (by decide) ?_
    refine lv_goto (tgt := 484) hx hb dL_law_480 (by decide) ?_
    refine lv_istore (lv' := [(9, .int 1), (10, .int (nI n)), (0, .ref b), (1, .ref (Z.A 0 0)), (2, .ref (la 0)), (3, .ref (la 1)), (4, .ref (la 2)), (5, .ref (la 3)), (6, .ref (la 4)), (7, .ref (la 5)), (8, .ref (la 6))]) hx hb dL_law_484 hl (by decide) rfl (fun ls hl => ?_)
    refine lv_iinc (v := nI (n + 1)) (lv' := [(10, .int (nI (n + 1))), (9, .int 1), (0, .ref b), (1, .ref (Z.A 0 0)), (2, .ref (la 0)), (3, .ref (la 1)), (4, .ref (la 2)), (5, .ref (la 3)), (6, .ref (la 4)), (7, .ref (la 5)), (8, .ref (la 6))]) hx hb dL_law_486 hl (k := 1) rfl (by rw [← nI_1]; rfl) (by decide) rfl (fun ls hl => ?_)
    refine lv_goto (tgt := 143) hx hb dL_law_489 (by decide) ?_
    refine W.widen (k := 1000 + 388 * (n + 1)) (n := 10000 + 3100 * (n + 1)) (by show 1000 + 388 * n + 5 + 383 ≤ _; omega) (by show 10000 + 3100 * n + 802 + 2298 ≤ _; omega) ?_
    exact ih (n + 1) (by omega) Z S M L0 H locs ls hR hx0 hI (by rw [← hx0]; exact lv_sub hl [1, 0, 2, 3, 4, 5, 6, 7, 8, 9, 10] rfl)
