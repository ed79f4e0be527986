/-! ===== references that may be null ===== -/
section XR
variable {p : Program} {e : Env} {R : Room} {s : State} {m : MethodId} {args : Array Value} {below : List Frame} {meth : Method} {c : Code} {H : Heap} {locs : List Loc} {cells slots : Nat} {Q : State → Prop}
variable {cc : ByteArray} {pc : Nat} {ls : Array Slot} {rest : List Value} {G : GX} {g : Nat → Nat} {cd : Nat}
theorem oV_or : oV g cd = .null ∨ ∃ a, oV g cd = .ref a := by
  unfold oV
  split
  · exact Or.inl rfl
  · exact Or.inr ⟨_, rfl⟩
theorem oV_go0 (h : ¬ cd = 0) (kk : W p G.1 e R s m args below meth c H locs cells slots Q (F0 m pc ls (.ref (g (cd - 1)) :: rest))) : W p G.1 e R s m args below meth c H locs cells slots Q (F0 m pc ls (oV g cd :: rest)) := by
  rw [oV_n h]
  exact kk
theorem oV_go1 {x : Value} (h : ¬ cd = 0) (kk : W p G.1 e R s m args below meth c H locs cells slots Q (F0 m pc ls (x :: .ref (g (cd - 1)) :: rest))) : W p G.1 e R s m args below meth c H locs cells slots Q (F0 m pc ls (x :: oV g cd :: rest)) := by
  rw [oV_n h]
  exact kk
theorem xb_ifnull (hx : p.tables.exec = Jvm.exec) (hb : c.code = cc) {off : Int} {tgt : Nat} (hdg : decode cc pc = .ok (.ifnull off, 3)) (ht : (pc : Int) + off = (tgt : Int)) (kt : cd = 0 → W p G.1 e R s m args below meth c H locs cells slots Q (F0 m tgt ls rest)) (kf : ¬ cd = 0 → W p G.1 e R s m args below meth c H locs cells slots Q (F0 m (pc + 3) ls rest)) : W p G.1 e R s m args below meth c H locs cells slots Q (F0 m pc ls (oV g cd :: rest)) := by
  by_cases h : cd = 0
  · rw [oV_0 h]
    exact lv_ifnullN hx hb hdg ht (kt h)
  · rw [oV_n h]
    exact lv_ifnull hx hb hdg (kf h)
theorem xb_ifnonnull (hx : p.tables.exec = Jvm.exec) (hb : c.code = cc) {off : Int} {tgt : Nat} (hdg : decode cc pc = .ok (.ifnonnull off, 3)) (ht : (pc : Int) + off = (tgt : Int)) (kt : ¬ cd = 0 → W p G.1 e R s m args below meth c H locs cells slots Q (F0 m tgt ls rest)) (kf : cd = 0 → W p G.1 e R s m args below meth c H locs cells slots Q (F0 m (pc + 3) ls rest)) : W p G.1 e R s m args below meth c H locs cells slots Q (F0 m pc ls (oV g cd :: rest)) := by
  by_cases h : cd = 0
  · rw [oV_0 h]
    exact lv_ifnonnullN hx hb hdg (kf h)
  · rw [oV_n h]
    exact lv_ifnonnull hx hb hdg ht (kt h)
theorem lv_aload_nR (hx : p.tables.exec = Jvm.exec) (hb : c.code = cc) {k : Fin 4} {i : Nat} (hdg : decode cc pc = .ok (.aload_n k, 1)) (hi : (k : Nat) = i) (hl : ls[i]? = some (.val (oV g cd)))
    (kk : W p G.1 e R s m args below meth c H locs cells slots Q (F0 m (pc + 1) ls (oV g cd :: rest))) : W p G.1 e R s m args below meth c H locs cells slots Q (F0 m pc ls (rest)) := by
  by_cases h : cd = 0
  · rw [oV_0 h] at hl kk
    exact lv_aload_nN hx hb hdg hi hl kk
  · rw [oV_n h] at hl kk
    exact lv_aload_n hx hb hdg hi hl kk
theorem lv_astore_nR (hx : p.tables.exec = Jvm.exec) (hb : c.code = cc) {k : Fin 4} {i nL : Nat} {lv lv' : List (Nat × Value)} (hdg : decode cc pc = .ok (.astore_n k, 1)) (hi : (k : Nat) = i) (h : lv_has ls nL lv) (hn : i < nL) (hl : (i, oV g cd) :: lv.filter (fun q => !(q.1 == i) && !(q.1 + 1 == i && q.2.category == 2)) = lv')
    (kk : ∀ ls' : Array Slot, lv_has ls' nL lv' → W p G.1 e R s m args below meth c H locs cells slots Q (F0 m (pc + 1) ls' rest)) : W p G.1 e R s m args below meth c H locs cells slots Q (F0 m pc ls (oV g cd :: rest)) := by
  by_cases h0 : cd = 0
  · rw [oV_0 h0] at hl ⊢
    exact lv_astore_nN hx hb hdg hi h hn hl kk
  · rw [oV_n h0] at hl ⊢
    exact lv_astore_n hx hb hdg hi h hn hl kk
end XR
def CW (Z : XZ) (S : XS) : Prop := ∀ j : Nat, S.2.2 j ≤ Z.O 3
theorem cw_lt {Z : XZ} {S : XS} {j : Nat} (h : CW Z S) (hz : ¬ S.2.2 j = 0) : S.2.2 j - 1 < Z.O 3 := by
  have := h j
  omega
theorem CW_set {Z : XZ} {S S1 : XS} {k i f : Nat} {v : Int32} (e : S1 = xset S k i f v) (h : CW Z S) : CW Z S1 := by
  subst e
  exact h
theorem CW_c {Z : XZ} {S S1 : XS} {j c : Nat} (e : S1 = xcset S j c) (hc : c ≤ Z.O 3) (h : CW Z S) : CW Z S1 := by
  subst e
  intro i
  show (ite _ _ _ : Nat) ≤ _
  split
  · exact hc
  · exact h i
theorem CW_k {Z : XZ} {S S1 : XS} {j : Nat} {v : NN} (e : S1 = xkset S j v) (h : CW Z S) : CW Z S1 := by
  subst e
  exact h
theorem kX3_216 : CkV RX3 216 yX3_kilosMissing cX3_kilosMissing 2 (some .int) 1 := ⟨q91, q88, q90, qp0, q1, by decide +kernel⟩
theorem kX3_42 : CkS RX3 42 yX3_needRange cX3_needRange 3 none 3 := ⟨q111, q109, q110, q1, by decide +kernel⟩
theorem kX3_65 : CkI RX3 65 yX1_init cX1_init 4 3 := ⟨q219, q217, q218, q10, rfl, by decide +kernel⟩
theorem kX3_78 : CkV RX3 78 yX3_pieceNumbered cX3_pieceNumbered 2 (some (.object "Icehighway$Piece")) 1 := ⟨q375, q372, q374, qp5, q1, by decide +kernel⟩
theorem kX3_82 : CkV RX3 82 yX1_isWaterPiece cX1_isWaterPiece 1 (some .boolean) 0 := ⟨q399, q396, q397, q398, q10, by decide +kernel⟩
theorem kX3_85 : CkV RX3 85 yX1_hasIce cX1_hasIce 1 (some .boolean) 0 := ⟨q403, q400, q401, q402, q10, by decide +kernel⟩
theorem kX3_93 : CkV RX3 93 yX1_realThickness cX1_realThickness 1 (some .double) 0 := ⟨q413, q410, q411, q412, q10, by decide +kernel⟩
theorem kX3_113 : CkI RX3 113 yX2_init cX2_init 4 3 := ⟨q438, q436, q437, q18, rfl, by decide +kernel⟩
theorem kX3_114 : CkV RX3 114 yX3_vehicleNumbered cX3_vehicleNumbered 2 (some (.object "Icehighway$Vehicle")) 1 := ⟨q480, q477, q479, qp6, q1, by decide +kernel⟩
theorem kX3_118 : CkS RX3 118 yX3_needGoods cX3_needGoods 1 none 1 := ⟨q484, q482, q483, q1, by decide +kernel⟩
theorem kX3_136 : CkI RX3 136 yX0_init cX0_init 3 2 := ⟨q491, q489, q490, q19, rfl, by decide +kernel⟩
theorem kX3_139 : CkV RX3 139 yX2_weight cX2_weight 1 (some .int) 0 := ⟨q510, q507, q508, q509, q18, by decide +kernel⟩
theorem kX3_150 : CkV RX3 150 yX3_stopAtEnd cX3_stopAtEnd 2 none 1 := ⟨q524, q521, q523, qp7, q1, by decide +kernel⟩
theorem kX3_266 : CkV RX3 266 yX3_unload cX3_unload 3 none 1 := ⟨q528, q525, q527, qp8, q1, by decide +kernel⟩
theorem kX3_161 : CkV RX3 161 yX3_passOneMinute cX3_passOneMinute 2 none 0 := ⟨q545, q542, q544, qp9, q1, by decide +kernel⟩
theorem kX3_245 : CkV RX3 245 yX3_endDay cX3_endDay 2 none 0 := ⟨q549, q546, q548, qp10, q1, by decide +kernel⟩
theorem kX3_251 : CkV RX3 251 yX1_freeze cX1_freeze 3 none 1 := ⟨q553, q550, q551, q552, q10, by decide +kernel⟩
theorem kX1_82 : CkV RX1 82 yX1_growth cX1_growth 4 (some .int) 1 := ⟨q558, q555, q557, qp11, q10, by decide +kernel⟩
theorem kX3_254 : CkV RX3 254 yX1_thaw cX1_thaw 8 none 1 := ⟨q563, q560, q561, q562, q10, by decide +kernel⟩
theorem kX3_248 : CkV RX3 248 yX3_moveOn cX3_moveOn 2 none 1 := ⟨q567, q564, q566, qp12, q1, by decide +kernel⟩
theorem kX3_257 : CkV RX3 257 yX3_leave cX3_leave 2 none 1 := ⟨q571, q568, q570, qp13, q1, by decide +kernel⟩
theorem kX3_263 : CkV RX3 263 yX1_letOff cX1_letOff 3 none 1 := ⟨q575, q572, q573, q574, q10, by decide +kernel⟩
theorem kX1_102 : CkV RX1 102 yX2_weight cX2_weight 1 (some .int) 0 := ⟨q510, q576, q508, q509, q18, by decide +kernel⟩
theorem kX1_110 : CkV RX1 110 yX1_isWaterPiece cX1_isWaterPiece 1 (some .boolean) 0 := ⟨q399, q577, q397, q398, q10, by decide +kernel⟩
theorem kX3_199 : CkV RX3 199 yX3_whatIsAgainst cX3_whatIsAgainst 5 (some .int) 1 := ⟨q581, q578, q580, qp14, q1, by decide +kernel⟩
theorem kX3_269 : CkV RX3 269 yX3_pieceAhead cX3_pieceAhead 3 (some (.object "Icehighway$Piece")) 1 := ⟨q585, q582, q584, qp15, q1, by decide +kernel⟩
theorem kX3_286 : CkV RX3 286 yX1_lastComing cX1_lastComing 2 (some .int) 1 := ⟨q589, q586, q587, q588, q10, by decide +kernel⟩
theorem kX3_292 : CkV RX3 292 yX1_countOn cX1_countOn 2 (some .int) 1 := ⟨q593, q590, q591, q592, q10, by decide +kernel⟩
theorem kX3_183 : CkV RX3 183 yX1_bearsAs cX1_bearsAs 6 (some .int) 1 := ⟨q597, q594, q595, q596, q10, by decide +kernel⟩
theorem kX1_68 : CkV RX1 68 yX1_thicknessAs cX1_thicknessAs 2 (some .double) 1 := ⟨q602, q599, q600, q601, q10, by decide +kernel⟩
theorem kX1_63 : CkV RX1 63 yX1_realThickness cX1_realThickness 1 (some .double) 0 := ⟨q413, q603, q411, q412, q10, by decide +kernel⟩
theorem kX3_260 : CkV RX3 260 yX3_comeOnto cX3_comeOnto 3 none 1 := ⟨q609, q606, q608, qp16, q1, by decide +kernel⟩
theorem kX3_273 : CkV RX3 273 yX1_noteComing cX1_noteComing 3 none 2 := ⟨q613, q610, q611, q612, q10, by decide +kernel⟩
theorem kX3_280 : CkV RX3 280 yX1_breakUp cX1_breakUp 1 none 0 := ⟨q617, q614, q615, q616, q10, by decide +kernel⟩
theorem kX3_206 : CkV RX3 206 yX1_minutesOf cX1_minutesOf 3 (some .int) 1 := ⟨q621, q618, q619, q620, q10, by decide +kernel⟩
theorem kX1_98 : CkV RX1 98 yX1_speedOf cX1_speedOf 8 (some .int) 1 := ⟨q625, q622, q623, q624, q10, by decide +kernel⟩
theorem kX3_283 : CkV RX3 283 yX1_takeOn cX1_takeOn 2 none 1 := ⟨q631, q628, q629, q630, q10, by decide +kernel⟩
theorem kX3_179 : CkV RX3 179 yX1_thicknessAs cX1_thicknessAs 2 (some .double) 1 := ⟨q602, q666, q600, q601, q10, by decide +kernel⟩
theorem kX3_203 : CkV RX3 203 yX1_speedOf cX1_speedOf 8 (some .int) 1 := ⟨q625, q691, q623, q624, q10, by decide +kernel⟩
theorem kX3_212 : CkV RX3 212 yX3_kilosInVehicles cX3_kilosInVehicles 6 (some .int) 2 := ⟨q651, q648, q650, qp17, q1, by decide +kernel⟩

def X_weight (Z : XZ) (S : XS) (it : Nat) : Int32 :=
  let x1 := if (S.2.2 it) = 0 then (S.1 2 it 0) else ((S.1 2 it 0) + (S.1 3 (S.2.2 it - 1) 1))
  x1
set_option maxHeartbeats 4000000 in
set_option maxRecDepth 100000 in
theorem cX_weight (G : GX) (Z : XZ) (S : XS) (it : Nat) (hit : it < Z.O 2) (hC : CW Z S) : FC G yX2_weight cX2_weight 1 (some .int) ({ frames := 0, cells := 0, slots := 0, locals := 0 }) [.ref (Z.A 2 it)] (xW G.2.2.2 G.2.1 Z S) (pv (.int (X_weight Z S it)) (xW G.2.2.2 G.2.1 Z S)) := by
  refine FC.go (lv := [(0, .ref (Z.A 2 it))]) (by decide) (Nat.le_of_ble_eq_true rfl) rfl (fun p e s m args below meth c A H locs ls Q hx hb hr hts hown hml hlocks hnm hK hE hI hA hl hQ => ?_)
  have hown : s.vm.findClass RX2 = some m.cls := hown
  refine lv_aload_n hx hb dX2_weight_0 rfl (lv_at hl 0 rfl) ?_
  refine gX2_25 (i := it) hx hb hts hown hK hI hit dX2_weight_1 ?_
  have hJ2 : ∀ (x1 : Int32), (x1 = if (S.2.2 it) = 0 then (S.1 2 it 0) else ((S.1 2 it 0) + (S.1 3 (S.2.2 it - 1) 1))) → W p G.1 e ({ frames := 0, cells := 0, slots := 0, locals := 0 }) s m args below meth c H locs 0 0 Q (F0 m 26 ls [.int x1]) := by
    intro x1 ex1
    have HE : X_weight Z S it = x1 := by subst ex1; exact rfl
    exact rt_i hx hb hr hlocks hI hA hQ ⟨by rw [HE], rfl⟩ (Nat.zero_le _) (Nat.zero_le _) dX2_weight_26
  refine xb_ifnonnull (tgt := 14) hx hb dX2_weight_4 (by decide) (fun c3 => ?_) (fun c3 => ?_)
  · refine lv_aload_n hx hb dX2_weight_14 rfl (lv_at hl 0 rfl) ?_
    refine gX2_29 (i := it) hx hb hts hown hK hI hit dX2_weight_15 ?_
    refine lv_aload_n hx hb dX2_weight_18 rfl (lv_at hl 0 rfl) ?_
    refine gX2_25 (i := it) hx hb hts hown hK hI hit dX2_weight_19 ?_
    refine oV_go0 c3 ?_
    refine gX2_38 (i := S.2.2 it - 1) hx hb hts hown hK hI (cw_lt hC c3) dX2_weight_22 ?_
    refine lv_iadd hx hb dX2_weight_25 ?_
    exact hJ2 ((S.1 2 it 0) + (S.1 3 (S.2.2 it - 1) 1)) (by exact (if_neg c3).symm)
  · refine lv_aload_n hx hb dX2_weight_7 rfl (lv_at hl 0 rfl) ?_
    refine gX2_29 (i := it) hx hb hts hown hK hI hit dX2_weight_8 ?_
    refine lv_goto (tgt := 26) hx hb dX2_weight_11 (by decide) ?_
    exact hJ2 (S.1 2 it 0) (by exact (if_pos c3).symm)

abbrev X_isWaterPiece (Z : XZ) (S : XS) (it : Nat) : Prop :=
  ¬ ((S.1 1 it 0) = 2)
set_option maxHeartbeats 4000000 in
set_option maxRecDepth 100000 in
theorem cX_isWaterPiece (G : GX) (Z : XZ) (S : XS) (it : Nat) (hit : it < Z.O 1) : FC G yX1_isWaterPiece cX1_isWaterPiece 1 (some .boolean) ({ frames := 0, cells := 0, slots := 0, locals := 0 }) [.ref (Z.A 1 it)] (xW G.2.2.2 G.2.1 Z S) (pv (.int (bI (X_isWaterPiece Z S it))) (xW G.2.2.2 G.2.1 Z S)) := by
  refine FC.go (lv := [(0, .ref (Z.A 1 it))]) (by decide) (Nat.le_of_ble_eq_true rfl) rfl (fun p e s m args below meth c A H locs ls Q hx hb hr hts hown hml hlocks hnm hK hE hI hA hl hQ => ?_)
  have hown : s.vm.findClass RX1 = some m.cls := hown
  refine lv_aload_n hx hb dX1_isWaterPiece_0 rfl (lv_at hl 0 rfl) ?_
  refine gX1_52 (i := it) hx hb hts hown hK hI hit dX1_isWaterPiece_1 ?_
  refine lv_iconst (v := 2) hx hb dX1_isWaterPiece_4 (by decide) ?_
  have hJ1 : W p G.1 e ({ frames := 0, cells := 0, slots := 0, locals := 0 }) s m args below meth c H locs 0 0 Q (F0 m 13 ls [.int (bI (¬ ((S.1 1 it 0) = 2)))]) := by
    exact rt_z hx hb hr hlocks bI_narrow hI hA hQ ⟨rfl, rfl⟩ (Nat.zero_le _) (Nat.zero_le _) dX1_isWaterPiece_13
  refine lv_icmp_eq (tgt := 12) hx hb dX1_isWaterPiece_5 (by decide) (fun c2 => ?_) (fun c2 => ?_)
  · refine lv_iconst (v := 0) hx hb dX1_isWaterPiece_12 (by decide) ?_
    have eb3 : (0 : Int32) = bI (¬ ((S.1 1 it 0) = 2)) := (bI_f (fun k => k c2)).symm
    rw [eb3]
    exact hJ1
  · refine lv_iconst (v := 1) hx hb dX1_isWaterPiece_8 (by decide) ?_
    refine lv_goto (tgt := 13) hx hb dX1_isWaterPiece_9 (by decide) ?_
    have eb4 : (1 : Int32) = bI (¬ ((S.1 1 it 0) = 2)) := (bI_t c2).symm
    rw [eb4]
    exact hJ1

abbrev X_hasIce (Z : XZ) (S : XS) (it : Nat) : Prop :=
  (0 < (S.1 1 it 3)) ∨ (¬ ((S.1 1 it 4) ≤ 0))
set_option maxHeartbeats 4000000 in
set_option maxRecDepth 100000 in
theorem cX_hasIce (G : GX) (Z : XZ) (S : XS) (it : Nat) (hit : it < Z.O 1) : FC G yX1_hasIce cX1_hasIce 1 (some .boolean) ({ frames := 0, cells := 0, slots := 0, locals := 0 }) [.ref (Z.A 1 it)] (xW G.2.2.2 G.2.1 Z S) (pv (.int (bI (X_hasIce Z S it))) (xW G.2.2.2 G.2.1 Z S)) := by
  refine FC.go (lv := [(0, .ref (Z.A 1 it))]) (by decide) (Nat.le_of_ble_eq_true rfl) rfl (fun p e s m args below meth c A H locs ls Q hx hb hr hts hown hml hlocks hnm hK hE hI hA hl hQ => ?_)
  have hown : s.vm.findClass RX1 = some m.cls := hown
  refine lv_aload_n hx hb dX1_hasIce_0 rfl (lv_at hl 0 rfl) ?_
  refine gX1_9 (i := it) hx hb hts hown hK hI hit dX1_hasIce_1 ?_
  have hJ1 : W p G.1 e ({ frames := 0, cells := 0, slots := 0, locals := 0 }) s m args below meth c H locs 0 0 Q (F0 m 19 ls [.int (bI ((0 < (S.1 1 it 3)) ∨ (¬ ((S.1 1 it 4) ≤ 0))))]) := by
    exact rt_z hx hb hr hlocks bI_narrow hI hA hQ ⟨rfl, rfl⟩ (Nat.zero_le _) (Nat.zero_le _) dX1_hasIce_19
  refine lv_if_gt (tgt := 14) hx hb dX1_hasIce_4 (by decide) (fun c2 => ?_) (fun c2 => ?_)
  · refine lv_iconst (v := 1) hx hb dX1_hasIce_14 (by decide) ?_
    refine lv_goto (tgt := 19) hx hb dX1_hasIce_15 (by decide) ?_
    have eb3 : (1 : Int32) = bI ((0 < (S.1 1 it 3)) ∨ (¬ ((S.1 1 it 4) ≤ 0))) := (bI_t (Or.inl c2)).symm
    rw [eb3]
    exact hJ1
  · refine lv_aload_n hx hb dX1_hasIce_7 rfl (lv_at hl 0 rfl) ?_
    refine gX1_15 (i := it) hx hb hts hown hK hI hit dX1_hasIce_8 ?_
    refine lv_if_le (tgt := 18) hx hb dX1_hasIce_11 (by decide) (fun c4 => ?_) (fun c4 => ?_)
    · refine lv_iconst (v := 0) hx hb dX1_hasIce_18 (by decide) ?_
      have eb5 : (0 : Int32) = bI ((0 < (S.1 1 it 3)) ∨ (¬ ((S.1 1 it 4) ≤ 0))) := (bI_f (fun k => k.elim c2 (fun k => k c4))).symm
      rw [eb5]
      exact hJ1
    · refine lv_iconst (v := 1) hx hb dX1_hasIce_14 (by decide) ?_
      refine lv_goto (tgt := 19) hx hb dX1_hasIce_15 (by decide) ?_
      have eb6 : (1 : Int32) = bI ((0 < (S.1 1 it 3)) ∨ (¬ ((S.1 1 it 4) ≤ 0))) := (bI_t (Or.inr c4)).symm
      rw [eb6]
      exact hJ1

def X_realThickness (Z : XZ) (S : XS) (it : Nat) : UInt64 :=
  FP.dadd (FP.i2d (S.1 1 it 3)) (FP.dmul (4602678819172646912 : UInt64) (FP.i2d (S.1 1 it 4)))
set_option maxHeartbeats 4000000 in
set_option maxRecDepth 100000 in
theorem cX_realThickness (G : GX) (Z : XZ) (S : XS) (it : Nat) (hit : it < Z.O 1) : FC G yX1_realThickness cX1_realThickness 1 (some .double) ({ frames := 0, cells := 0, slots := 0, locals := 0 }) [.ref (Z.A 1 it)] (xW G.2.2.2 G.2.1 Z S) (pv (.double (X_realThickness Z S it)) (xW G.2.2.2 G.2.1 Z S)) := by
  refine FC.go (lv := [(0, .ref (Z.A 1 it))]) (by decide) (Nat.le_of_ble_eq_true rfl) rfl (fun p e s m args below meth c A H locs ls Q hx hb hr hts hown hml hlocks hnm hK hE hI hA hl hQ => ?_)
  have hown : s.vm.findClass RX1 = some m.cls := hown
  refine lv_aload_n hx hb dX1_realThickness_0 rfl (lv_at hl 0 rfl) ?_
  refine gX1_9 (i := it) hx hb hts hown hK hI hit dX1_realThickness_1 ?_
  refine lv_i2d hx hb dX1_realThickness_4 ?_
  refine lv_ldc2d (v := 4602678819172646912) hx hb hown (hts _ q414) dX1_realThickness_5 ?_
  refine lv_aload_n hx hb dX1_realThickness_8 rfl (lv_at hl 0 rfl) ?_
  refine gX1_15 (i := it) hx hb hts hown hK hI hit dX1_realThickness_9 ?_
  refine lv_i2d hx hb dX1_realThickness_12 ?_
  refine lv_dmul hx hb dX1_realThickness_13 (nn_half _) ?_
  refine lv_dadd hx hb dX1_realThickness_14 (nn_thick _ _) ?_
  have HE : X_realThickness Z S it = FP.dadd (FP.i2d (S.1 1 it 3)) (FP.dmul (4602678819172646912 : UInt64) (FP.i2d (S.1 1 it 4))) := by exact rfl
  exact rt_d hx hb hr hlocks hI hA hQ ⟨by rw [HE], rfl⟩ (Nat.zero_le _) (Nat.zero_le _) dX1_realThickness_15

theorem nn_thickX (Z : XZ) (S : XS) (i : Nat) : vf_n64 (X_realThickness Z S i) := nn_thick _ _
def X_thicknessAs (Z : XZ) (S : XS) (it : Nat) (ub : Int32) : UInt64 :=
  let x1 := if ub = 0 then (X_realThickness Z S it) else ((S.2.1 it).1)
  x1
set_option maxHeartbeats 4000000 in
set_option maxRecDepth 100000 in
theorem cX_thicknessAs (G : GX) (Z : XZ) (S : XS) (it : Nat) (ub : Int32) (hit : it < Z.O 1) : FC G yX1_thicknessAs cX1_thicknessAs 2 (some .double) ({ frames := 1, cells := 0, slots := 0, locals := 20 }) [.ref (Z.A 1 it), .int ub] (xW G.2.2.2 G.2.1 Z S) (pv (.double (X_thicknessAs Z S it ub)) (xW G.2.2.2 G.2.1 Z S)) := by
  refine FC.go (lv := [(0, .ref (Z.A 1 it)), (1, .int ub)]) (by decide) (Nat.le_of_ble_eq_true rfl) rfl (fun p e s m args below meth c A H locs ls Q hx hb hr hts hown hml hlocks hnm hK hE hI hA hl hQ => ?_)
  have hown : s.vm.findClass RX1 = some m.cls := hown
  refine lv_iload_n hx hb dX1_thicknessAs_0 rfl (lv_at hl 1 rfl) ?_
  have hJ2 : ∀ (x1 : UInt64) (H : Heap) (locs : List Loc), (x1 = if ub = 0 then (X_realThickness Z S it) else ((S.2.1 it).1)) → (fI G.2.2.1 A s.heap (xW G.2.2.2 G.2.1 Z S) H locs) → W p G.1 e ({ frames := 1, cells := 0, slots := 0, locals := 20 }) s m args below meth c H locs 0 0 Q (F0 m 15 ls [.double x1]) := by
    intro x1 H locs ex1 hI
    have HE : X_thicknessAs Z S it ub = x1 := by subst ex1; exact rfl
    exact rt_d hx hb hr hlocks hI hA hQ ⟨by rw [HE], rfl⟩ (Nat.zero_le _) (Nat.zero_le _) dX1_thicknessAs_15
  refine lv_if_eq (tgt := 11) hx hb dX1_thicknessAs_1 (by decide) (fun c3 => ?_) (fun c3 => ?_)
  · refine lv_aload_n hx hb dX1_thicknessAs_11 rfl (lv_at hl 0 rfl) ?_
    refine cVv (rest := []) hx hb hml hts hown hK hE hI (cX_realThickness G Z S it hit) kX1_63 ⟨Nat.le_of_ble_eq_true rfl, Nat.le_of_ble_eq_true rfl⟩ rfl rfl (kk := 1) (ii := it) (xW1 hit) rfl rfl hl.1 rfl (Nat.le_of_ble_eq_true rfl) dX1_thicknessAs_12 ⟨Nat.zero_le _, Nat.zero_le _⟩ (fun H locs hI => ?_)
    exact hJ2 (X_realThickness Z S it) _ _ (by exact (if_pos c3).symm) hI
  · refine lv_aload_n hx hb dX1_thicknessAs_4 rfl (lv_at hl 0 rfl) ?_
    refine gX1_33 (i := it) hx hb hts hown hK hI hit dX1_thicknessAs_5 ?_
    refine lv_goto (tgt := 15) hx hb dX1_thicknessAs_8 (by decide) ?_
    exact hJ2 ((S.2.1 it).1) _ _ (by exact (if_neg c3).symm) hI

theorem nn_thk (Z : XZ) (S : XS) (i : Nat) (b : Int32) : vf_n64 (X_thicknessAs Z S i b) := by
  unfold X_thicknessAs
  split
  · exact nn_thickX Z S i
  · exact (S.2.1 i).2
theorem i32_pos_ne {x : Int32} (h : 0 < x) : ¬ x = 0 := fun e => by
  subst e
  exact absurd h (by decide)
def X_bearsAs (Z : XZ) (S : XS) (it : Nat) (ub : Int32) : Int32 :=
  if (S.1 1 it 0) = 2 then
    let x6 := if (S.1 1 it 6) < 100 then 0 else 60000
    x6
  else
    let x2 := if (S.1 1 it 7) = 0 then FP.dconst1 else (if (S.1 1 it 7) = 1 then (4604930618986332160 : UInt64) else (4602678819172646912 : UInt64))
    FP.d2i (FP.dmul (FP.dmul (FP.dmul (4585925428558828667 : UInt64) (X_thicknessAs Z S it ub)) (X_thicknessAs Z S it ub)) x2)
set_option maxHeartbeats 4000000 in
set_option maxRecDepth 100000 in
theorem cX_bearsAs (G : GX) (Z : XZ) (S : XS) (it : Nat) (ub : Int32) (hit : it < Z.O 1) : FC G yX1_bearsAs cX1_bearsAs 6 (some .int) ({ frames := 2, cells := 0, slots := 0, locals := 41 }) [.ref (Z.A 1 it), .int ub] (xW G.2.2.2 G.2.1 Z S) (pv (.int (X_bearsAs Z S it ub)) (xW G.2.2.2 G.2.1 Z S)) := by
  refine FC.go (lv := [(0, .ref (Z.A 1 it)), (1, .int ub)]) (by decide) (Nat.le_of_ble_eq_true rfl) rfl (fun p e s m args below meth c A H locs ls Q hx hb hr hts hown hml hlocks hnm hK hE hI hA hl hQ => ?_)
  have hown : s.vm.findClass RX1 = some m.cls := hown
  refine lv_aload_n hx hb dX1_bearsAs_0 rfl (lv_at hl 0 rfl) ?_
  refine gX1_52 (i := it) hx hb hts hown hK hI hit dX1_bearsAs_1 ?_
  refine lv_iconst (v := 2) hx hb dX1_bearsAs_4 (by decide) ?_
  refine lv_icmp_ne (tgt := 24) hx hb dX1_bearsAs_5 (by decide) (fun c1 => ?_) (fun c1 => ?_)
  · refine lv_aload_n hx hb dX1_bearsAs_24 rfl (lv_at hl 0 rfl) ?_
    refine lv_iload_n hx hb dX1_bearsAs_25 rfl (lv_at hl 1 rfl) ?_
    refine cVv (rest := []) hx hb hml hts hown hK hE hI (cX_thicknessAs G Z S it ub hit) kX1_68 ⟨Nat.le_of_ble_eq_true rfl, Nat.le_of_ble_eq_true rfl⟩ rfl rfl (kk := 1) (ii := it) (xW1 hit) rfl rfl hl.1 rfl (Nat.le_of_ble_eq_true rfl) dX1_bearsAs_26 ⟨Nat.zero_le _, Nat.zero_le _⟩ (fun H locs hI => ?_)
    refine lv_dstore_n (lv' := [(2, .double (X_thicknessAs Z S it ub)), (0, .ref (Z.A 1 it)), (1, .int ub)]) hx hb dX1_bearsAs_29 rfl hl (by decide) rfl (fun ls hl => ?_)
    refine lv_aload_n hx hb dX1_bearsAs_30 rfl (lv_at hl 1 rfl) ?_
    refine gX1_24 (i := it) hx hb hts hown hK hI hit dX1_bearsAs_31 ?_
    have hJ3 : ∀ (x2 : UInt64), (x2 = if (S.1 1 it 7) = 0 then FP.dconst1 else (if (S.1 1 it 7) = 1 then (4604930618986332160 : UInt64) else (4602678819172646912 : UInt64))) → W p G.1 e ({ frames := 2, cells := 0, slots := 0, locals := 41 }) s m args below meth c H locs 0 0 Q (F0 m 58 ls [.double x2]) := by
      intro x2 ex2
      refine lv_dstore (lv' := [(4, .double x2), (2, .double (X_thicknessAs Z S it ub)), (0, .ref (Z.A 1 it)), (1, .int ub)]) hx hb dX1_bearsAs_58 hl (by decide) rfl (fun ls hl => ?_)
      refine lv_ldc2d (v := 4585925428558828667) hx hb hown (hts _ q605) dX1_bearsAs_60 ?_
      refine lv_dload_n hx hb dX1_bearsAs_63 rfl (lv_at hl 1 rfl) ?_
      refine lv_dmul hx hb dX1_bearsAs_64 (nn_b1 (nn_thk Z S it ub)) ?_
      refine lv_dload_n hx hb dX1_bearsAs_65 rfl (lv_at hl 1 rfl) ?_
      refine lv_dmul hx hb dX1_bearsAs_66 (nn_b2 (nn_thk Z S it ub)) ?_
      refine lv_dload hx hb dX1_bearsAs_67 (lv_at hl 0 rfl) ?_
      refine lv_dmul hx hb dX1_bearsAs_69 (nn_b3 (nn_b2 (nn_thk Z S it ub)) (nn_sv ex2)) ?_
      refine lv_d2i hx hb dX1_bearsAs_70 ?_
      have HE : X_bearsAs Z S it ub = FP.d2i (FP.dmul (FP.dmul (FP.dmul (4585925428558828667 : UInt64) (X_thicknessAs Z S it ub)) (X_thicknessAs Z S it ub)) x2) := by subst ex2; exact (if_neg c1)
      exact rt_i hx hb hr hlocks hI hA hQ ⟨by rw [HE], rfl⟩ (Nat.zero_le _) (Nat.zero_le _) dX1_bearsAs_71
    refine lv_if_ne (tgt := 41) hx hb dX1_bearsAs_34 (by decide) (fun c4 => ?_) (fun c4 => ?_)
    · refine lv_aload_n hx hb dX1_bearsAs_41 rfl (lv_at hl 1 rfl) ?_
      refine gX1_24 (i := it) hx hb hts hown hK hI hit dX1_bearsAs_42 ?_
      refine lv_iconst (v := 1) hx hb dX1_bearsAs_45 (by decide) ?_
      refine lv_icmp_ne (tgt := 55) hx hb dX1_bearsAs_46 (by decide) (fun c5 => ?_) (fun c5 => ?_)
      · refine lv_ldc2d (v := 4602678819172646912) hx hb hown (hts _ q414) dX1_bearsAs_55 ?_
        exact hJ3 (4602678819172646912 : UInt64) (by exact ((if_neg c4).trans (if_neg c5)).symm)
      · refine lv_ldc2d (v := 4604930618986332160) hx hb hown (hts _ q604) dX1_bearsAs_49 ?_
        refine lv_goto (tgt := 58) hx hb dX1_bearsAs_52 (by decide) ?_
        exact hJ3 (4604930618986332160 : UInt64) (by exact ((if_neg c4).trans (if_pos c5)).symm)
    · refine lv_dconst1 hx hb dX1_bearsAs_37 ?_
      refine lv_goto (tgt := 58) hx hb dX1_bearsAs_38 (by decide) ?_
      exact hJ3 FP.dconst1 (by exact (if_pos c4).symm)
  · refine lv_aload_n hx hb dX1_bearsAs_8 rfl (lv_at hl 0 rfl) ?_
    refine gX1_21 (i := it) hx hb hts hown hK hI hit dX1_bearsAs_9 ?_
    refine lv_bipush (v := 100) hx hb dX1_bearsAs_12 (by decide) ?_
    have hJ7 : ∀ (x6 : Int32), (x6 = if (S.1 1 it 6) < 100 then 0 else 60000) → W p G.1 e ({ frames := 2, cells := 0, slots := 0, locals := 41 }) s m args below meth c H locs 0 0 Q (F0 m 23 ls [.int x6]) := by
      intro x6 ex6
      have HE : X_bearsAs Z S it ub = x6 := by subst ex6; exact (if_pos c1)
      exact rt_i hx hb hr hlocks hI hA hQ ⟨by rw [HE], rfl⟩ (Nat.zero_le _) (Nat.zero_le _) dX1_bearsAs_23
    refine lv_icmp_lt (tgt := 22) hx hb dX1_bearsAs_14 (by decide) (fun c8 => ?_) (fun c8 => ?_)
    · refine lv_iconst (v := 0) hx hb dX1_bearsAs_22 (by decide) ?_
      exact hJ7 0 (by exact (if_pos c8).symm)
    · refine lv_ldc (v := 60000) hx hb hown (hts _ q598) dX1_bearsAs_17 ?_
      refine lv_goto (tgt := 23) hx hb dX1_bearsAs_19 (by decide) ?_
      exact hJ7 60000 (by exact (if_neg c8).symm)

def X_growth (Z : XZ) (S : XS) (it : Nat) (ud : Int32) : Int32 :=
  if 0 < ((((S.1 1 it 3) + (S.1 1 it 4)) + (4 * (S.1 1 it 6))) + 50) then
    let x2 := if (S.1 1 it 0) = 1 then (if 0 < (((400 * ud) / ((((S.1 1 it 3) + (S.1 1 it 4)) + (4 * (S.1 1 it 6))) + 50)) - 2) then (((400 * ud) / ((((S.1 1 it 3) + (S.1 1 it 4)) + (4 * (S.1 1 it 6))) + 50)) - 2) else 0) else ((400 * ud) / ((((S.1 1 it 3) + (S.1 1 it 4)) + (4 * (S.1 1 it 6))) + 50))
    x2
  else
    0
set_option maxHeartbeats 4000000 in
set_option maxRecDepth 100000 in
theorem cX_growth (G : GX) (Z : XZ) (S : XS) (it : Nat) (ud : Int32) (hit : it < Z.O 1) : FC G yX1_growth cX1_growth 4 (some .int) ({ frames := 1, cells := 0, slots := 0, locals := 21 }) [.ref (Z.A 1 it), .int ud] (xW G.2.2.2 G.2.1 Z S) (pv (.int (X_growth Z S it ud)) (xW G.2.2.2 G.2.1 Z S)) := by
  refine FC.go (lv := [(0, .ref (Z.A 1 it)), (1, .int ud)]) (by decide) (Nat.le_of_ble_eq_true rfl) rfl (fun p e s m args below meth c A H locs ls Q hx hb hr hts hown hml hlocks hnm hK hE hI hA hl hQ => ?_)
  have hown : s.vm.findClass RX1 = some m.cls := hown
  refine lv_aload_n hx hb dX1_growth_0 rfl (lv_at hl 0 rfl) ?_
  refine gX1_9 (i := it) hx hb hts hown hK hI hit dX1_growth_1 ?_
  refine lv_aload_n hx hb dX1_growth_4 rfl (lv_at hl 0 rfl) ?_
  refine gX1_15 (i := it) hx hb hts hown hK hI hit dX1_growth_5 ?_
  refine lv_iadd hx hb dX1_growth_8 ?_
  refine lv_iconst (v := 4) hx hb dX1_growth_9 (by decide) ?_
  refine lv_aload_n hx hb dX1_growth_10 rfl (lv_at hl 0 rfl) ?_
  refine gX1_21 (i := it) hx hb hts hown hK hI hit dX1_growth_11 ?_
  refine lv_imul hx hb dX1_growth_14 ?_
  refine lv_iadd hx hb dX1_growth_15 ?_
  refine lv_bipush (v := 50) hx hb dX1_growth_16 (by decide) ?_
  refine lv_iadd hx hb dX1_growth_18 ?_
  refine lv_istore_n (lv' := [(2, .int ((((S.1 1 it 3) + (S.1 1 it 4)) + (4 * (S.1 1 it 6))) + 50)), (0, .ref (Z.A 1 it)), (1, .int ud)]) hx hb dX1_growth_19 rfl hl (by decide) rfl (fun ls hl => ?_)
  refine lv_iload_n hx hb dX1_growth_20 rfl (lv_at hl 0 rfl) ?_
  refine lv_if_gt (tgt := 26) hx hb dX1_growth_21 (by decide) (fun c1 => ?_) (fun c1 => ?_)
  · refine lv_sipush (v := 400) hx hb dX1_growth_26 (by decide) ?_
    refine lv_iload_n hx hb dX1_growth_29 rfl (lv_at hl 2 rfl) ?_
    refine lv_imul hx hb dX1_growth_30 ?_
    refine lv_iload_n hx hb dX1_growth_31 rfl (lv_at hl 0 rfl) ?_
    refine lv_idiv hx hb dX1_growth_32 (i32_pos_ne c1) ?_
    refine lv_istore_n (lv' := [(3, .int ((400 * ud) / ((((S.1 1 it 3) + (S.1 1 it 4)) + (4 * (S.1 1 it 6))) + 50))), (2, .int ((((S.1 1 it 3) + (S.1 1 it 4)) + (4 * (S.1 1 it 6))) + 50)), (0, .ref (Z.A 1 it)), (1, .int ud)]) hx hb dX1_growth_33 rfl hl (by decide) rfl (fun ls hl => ?_)
    refine lv_aload_n hx hb dX1_growth_34 rfl (lv_at hl 2 rfl) ?_
    refine gX1_52 (i := it) hx hb hts hown hK hI hit dX1_growth_35 ?_
    refine lv_iconst (v := 1) hx hb dX1_growth_38 (by decide) ?_
    have hJ3 : ∀ (x2 : Int32), (x2 = if (S.1 1 it 0) = 1 then (if 0 < (((400 * ud) / ((((S.1 1 it 3) + (S.1 1 it 4)) + (4 * (S.1 1 it 6))) + 50)) - 2) then (((400 * ud) / ((((S.1 1 it 3) + (S.1 1 it 4)) + (4 * (S.1 1 it 6))) + 50)) - 2) else 0) else ((400 * ud) / ((((S.1 1 it 3) + (S.1 1 it 4)) + (4 * (S.1 1 it 6))) + 50))) → W p G.1 e ({ frames := 1, cells := 0, slots := 0, locals := 21 }) s m args below meth c H locs 0 0 Q (F0 m 53 ls [.int x2]) := by
      intro x2 ex2
      have HE : X_growth Z S it ud = x2 := by subst ex2; exact (if_pos c1)
      exact rt_i hx hb hr hlocks hI hA hQ ⟨by rw [HE], rfl⟩ (Nat.zero_le _) (Nat.zero_le _) dX1_growth_53
    refine lv_icmp_ne (tgt := 52) hx hb dX1_growth_39 (by decide) (fun c4 => ?_) (fun c4 => ?_)
    · refine lv_iload_n hx hb dX1_growth_52 rfl (lv_at hl 0 rfl) ?_
      exact hJ3 ((400 * ud) / ((((S.1 1 it 3) + (S.1 1 it 4)) + (4 * (S.1 1 it 6))) + 50)) (by exact (if_neg c4).symm)
    · refine lv_iconst (v := 0) hx hb dX1_growth_42 (by decide) ?_
      refine lv_iload_n hx hb dX1_growth_43 rfl (lv_at hl 0 rfl) ?_
      refine lv_iconst (v := 2) hx hb dX1_growth_44 (by decide) ?_
      refine lv_isub hx hb dX1_growth_45 ?_
      obtain ⟨x5, ex5⟩ : ∃ z : Int32, z = (if 0 < (((400 * ud) / ((((S.1 1 it 3) + (S.1 1 it 4)) + (4 * (S.1 1 it 6))) + 50)) - 2) then (((400 * ud) / ((((S.1 1 it 3) + (S.1 1 it 4)) + (4 * (S.1 1 it 6))) + 50)) - 2) else 0) := ⟨_, rfl⟩
      refine va_mmax (rest := []) hx hb (by rw [hml]; exact hl.1.symm) hown (hts _ q559) (hts _ q93) (hts _ q12) (hts _ q94) (Nat.le_of_ble_eq_true rfl) (Nat.le_of_ble_eq_true rfl) (Nat.zero_le _) (Nat.zero_le _) dX1_growth_46 ?_
      rw [← ex5]
      refine lv_goto (tgt := 53) hx hb dX1_growth_49 (by decide) ?_
      exact hJ3 x5 (by subst ex5; exact (if_pos c4).symm)
  · refine lv_iconst (v := 0) hx hb dX1_growth_24 (by decide) ?_
    have HE : X_growth Z S it ud = 0 := by exact (if_neg c1)
    exact rt_i hx hb hr hlocks hI hA hQ ⟨by rw [HE], rfl⟩ (Nat.zero_le _) (Nat.zero_le _) dX1_growth_25

def X_freeze (Z : XZ) (S : XS) (it : Nat) (ud : Int32) : XS :=
  if (S.1 1 it 0) = 2 then
    S
  else
    let x2 := if (2 * ud) < (S.1 1 it 5) then (2 * ud) else (S.1 1 it 5)
    let S3 := xset S 1 it 5 ((S.1 1 it 5) - x2)
    let S4 := xset S3 1 it 4 ((S3.1 1 it 4) + x2)
    let S5 := if (S4.1 1 it 5) = 0 then (xset S4 1 it 3 ((S4.1 1 it 3) + (X_growth Z S4 it ud))) else S4
    let S7 := if ud < 40 then (if ud < 10 then S5 else (xset S5 1 it 7 (bI ((S5.1 1 it 7) = 2)))) else (xset S5 1 it 7 (if (S5.1 1 it 7) = 0 then 1 else (S5.1 1 it 7)))
    S7
set_option maxHeartbeats 4000000 in
set_option maxRecDepth 100000 in
theorem cX_freeze (G : GX) (Z : XZ) (S : XS) (it : Nat) (ud : Int32) (hit : it < Z.O 1) : FC G yX1_freeze cX1_freeze 3 none ({ frames := 2, cells := 0, slots := 0, locals := 44 }) [.ref (Z.A 1 it), .int ud] (xW G.2.2.2 G.2.1 Z S) (p0 (xW G.2.2.2 G.2.1 Z (X_freeze Z S it ud))) := by
  refine FC.go (lv := [(0, .ref (Z.A 1 it)), (1, .int ud)]) (by decide) (Nat.le_of_ble_eq_true rfl) rfl (fun p e s m args below meth c A H locs ls Q hx hb hr hts hown hml hlocks hnm hK hE hI hA hl hQ => ?_)
  have hown : s.vm.findClass RX1 = some m.cls := hown
  refine lv_aload_n hx hb dX1_freeze_0 rfl (lv_at hl 0 rfl) ?_
  refine gX1_52 (i := it) hx hb hts hown hK hI hit dX1_freeze_1 ?_
  refine lv_iconst (v := 2) hx hb dX1_freeze_4 (by decide) ?_
  refine lv_icmp_ne (tgt := 9) hx hb dX1_freeze_5 (by decide) (fun c1 => ?_) (fun c1 => ?_)
  · refine lv_aload_n hx hb dX1_freeze_9 rfl (lv_at hl 0 rfl) ?_
    refine gX1_18 (i := it) hx hb hts hown hK hI hit dX1_freeze_10 ?_
    refine lv_iconst (v := 2) hx hb dX1_freeze_13 (by decide) ?_
    refine lv_iload_n hx hb dX1_freeze_14 rfl (lv_at hl 1 rfl) ?_
    refine lv_imul hx hb dX1_freeze_15 ?_
    obtain ⟨x2, ex2⟩ : ∃ z : Int32, z = (if (2 * ud) < (S.1 1 it 5) then (2 * ud) else (S.1 1 it 5)) := ⟨_, rfl⟩
    refine va_mmin (rest := []) hx hb (by rw [hml]; exact hl.1.symm) hown (hts _ q554) (hts _ q334) (hts _ q12) (hts _ q335) (Nat.le_of_ble_eq_true rfl) (Nat.le_of_ble_eq_true rfl) (Nat.zero_le _) (Nat.zero_le _) dX1_freeze_16 ?_
    rw [← ex2]
    refine lv_istore_n (lv' := [(2, .int x2), (0, .ref (Z.A 1 it)), (1, .int ud)]) hx hb dX1_freeze_19 rfl hl (by decide) rfl (fun ls hl => ?_)
    refine lv_aload_n hx hb dX1_freeze_20 rfl (lv_at hl 1 rfl) ?_
    refine lv_dup hx hb dX1_freeze_21 rfl ?_
    refine gX1_18 (i := it) hx hb hts hown hK hI hit dX1_freeze_22 ?_
    refine lv_iload_n hx hb dX1_freeze_25 rfl (lv_at hl 0 rfl) ?_
    refine lv_isub hx hb dX1_freeze_26 ?_
    obtain ⟨S3, eS3⟩ : ∃ z : XS, z = xset S 1 it 5 ((S.1 1 it 5) - x2) := ⟨_, rfl⟩
    refine pX1_18 (i := it) hx hb hts hown hK hI hit eS3 dX1_freeze_27 (fun H locs hI => ?_)
    refine lv_aload_n hx hb dX1_freeze_30 rfl (lv_at hl 1 rfl) ?_
    refine lv_dup hx hb dX1_freeze_31 rfl ?_
    refine gX1_15 (i := it) hx hb hts hown hK hI hit dX1_freeze_32 ?_
    refine lv_iload_n hx hb dX1_freeze_35 rfl (lv_at hl 0 rfl) ?_
    refine lv_iadd hx hb dX1_freeze_36 ?_
    obtain ⟨S4, eS4⟩ : ∃ z : XS, z = xset S3 1 it 4 ((S3.1 1 it 4) + x2) := ⟨_, rfl⟩
    refine pX1_15 (i := it) hx hb hts hown hK hI hit eS4 dX1_freeze_37 (fun H locs hI => ?_)
    refine lv_aload_n hx hb dX1_freeze_40 rfl (lv_at hl 1 rfl) ?_
    refine gX1_18 (i := it) hx hb hts hown hK hI hit dX1_freeze_41 ?_
    have hJ6 : ∀ (S5 : XS) (H : Heap) (locs : List Loc), (S5 = if (S4.1 1 it 5) = 0 then (xset S4 1 it 3 ((S4.1 1 it 3) + (X_growth Z S4 it ud))) else S4) → (fI G.2.2.1 A s.heap (xW G.2.2.2 G.2.1 Z S5) H locs) → W p G.1 e ({ frames := 2, cells := 0, slots := 0, locals := 44 }) s m args below meth c H locs 0 0 Q (F0 m 61 ls []) := by
      intro S5 H locs eS5 hI
      refine lv_iload_n hx hb dX1_freeze_61 rfl (lv_at hl 2 rfl) ?_
      refine lv_bipush (v := 40) hx hb dX1_freeze_62 (by decide) ?_
      have hJ8 : ∀ (S7 : XS) (H : Heap) (locs : List Loc), (S7 = if ud < 40 then (if ud < 10 then S5 else (xset S5 1 it 7 (bI ((S5.1 1 it 7) = 2)))) else (xset S5 1 it 7 (if (S5.1 1 it 7) = 0 then 1 else (S5.1 1 it 7)))) → (fI G.2.2.1 A s.heap (xW G.2.2.2 G.2.1 Z S7) H locs) → W p G.1 e ({ frames := 2, cells := 0, slots := 0, locals := 44 }) s m args below meth c H locs 0 0 Q (F0 m 112 ls []) := by
        intro S7 H locs eS7 hI
        have HE : X_freeze Z S it ud = S7 := by subst eS7 eS5 eS4 eS3 ex2; exact (if_neg c1)
        exact rt_v hx hb hr hlocks hI hA hQ ⟨rfl, by rw [HE]⟩ (Nat.zero_le _) (Nat.zero_le _) dX1_freeze_112
      refine lv_icmp_lt (tgt := 89) hx hb dX1_freeze_64 (by decide) (fun c9 => ?_) (fun c9 => ?_)
      · refine lv_iload_n hx hb dX1_freeze_89 rfl (lv_at hl 2 rfl) ?_
        refine lv_bipush (v := 10) hx hb dX1_freeze_90 (by decide) ?_
        refine lv_icmp_lt (tgt := 112) hx hb dX1_freeze_92 (by decide) (fun c10 => ?_) (fun c10 => ?_)
        · exact hJ8 S5 _ _ (by exact ((if_pos c9).trans (if_pos c10)).symm) hI
        · refine lv_aload_n hx hb dX1_freeze_95 rfl (lv_at hl 1 rfl) ?_
          refine lv_aload_n hx hb dX1_freeze_96 rfl (lv_at hl 1 rfl) ?_
          refine gX1_24 (i := it) hx hb hts hown hK hI hit dX1_freeze_97 ?_
          refine lv_iconst (v := 2) hx hb dX1_freeze_100 (by decide) ?_
          have hJ11 : W p G.1 e ({ frames := 2, cells := 0, slots := 0, locals := 44 }) s m args below meth c H locs 0 0 Q (F0 m 109 ls [.int (bI ((S5.1 1 it 7) = 2)), .ref (Z.A 1 it)]) := by
            obtain ⟨S12, eS12⟩ : ∃ z : XS, z = xset S5 1 it 7 (bI ((S5.1 1 it 7) = 2)) := ⟨_, rfl⟩
            refine pX1_24 (i := it) hx hb hts hown hK hI hit eS12 dX1_freeze_109 (fun H locs hI => ?_)
            exact hJ8 S12 _ _ (by subst eS12; exact ((if_pos c9).trans (if_neg c10)).symm) hI
          refine lv_icmp_ne (tgt := 108) hx hb dX1_freeze_101 (by decide) (fun c13 => ?_) (fun c13 => ?_)
          · refine lv_iconst (v := 0) hx hb dX1_freeze_108 (by decide) ?_
            have eb14 : (0 : Int32) = bI ((S5.1 1 it 7) = 2) := (bI_f c13).symm
            rw [eb14]
            exact hJ11
          · refine lv_iconst (v := 1) hx hb dX1_freeze_104 (by decide) ?_
            refine lv_goto (tgt := 109) hx hb dX1_freeze_105 (by decide) ?_
            have eb15 : (1 : Int32) = bI ((S5.1 1 it 7) = 2) := (bI_t c13).symm
            rw [eb15]
            exact hJ11
      · refine lv_aload_n hx hb dX1_freeze_67 rfl (lv_at hl 1 rfl) ?_
        refine lv_aload_n hx hb dX1_freeze_68 rfl (lv_at hl 1 rfl) ?_
        refine gX1_24 (i := it) hx hb hts hown hK hI hit dX1_freeze_69 ?_
        have hJ17 : ∀ (x16 : Int32), (x16 = if (S5.1 1 it 7) = 0 then 1 else (S5.1 1 it 7)) → W p G.1 e ({ frames := 2, cells := 0, slots := 0, locals := 44 }) s m args below meth c H locs 0 0 Q (F0 m 83 ls [.int x16, .ref (Z.A 1 it)]) := by
          intro x16 ex16
          obtain ⟨S18, eS18⟩ : ∃ z : XS, z = xset S5 1 it 7 x16 := ⟨_, rfl⟩
          refine pX1_24 (i := it) hx hb hts hown hK hI hit eS18 dX1_freeze_83 (fun H locs hI => ?_)
          refine lv_goto (tgt := 112) hx hb dX1_freeze_86 (by decide) ?_
          exact hJ8 S18 _ _ (by subst eS18 ex16; exact (if_neg c9).symm) hI
        refine lv_if_ne (tgt := 79) hx hb dX1_freeze_72 (by decide) (fun c19 => ?_) (fun c19 => ?_)
        · refine lv_aload_n hx hb dX1_freeze_79 rfl (lv_at hl 1 rfl) ?_
          refine gX1_24 (i := it) hx hb hts hown hK hI hit dX1_freeze_80 ?_
          exact hJ17 (S5.1 1 it 7) (by exact (if_neg c19).symm)
        · refine lv_iconst (v := 1) hx hb dX1_freeze_75 (by decide) ?_
          refine lv_goto (tgt := 83) hx hb dX1_freeze_76 (by decide) ?_
          exact hJ17 1 (by exact (if_pos c19).symm)
    refine lv_if_ne (tgt := 61) hx hb dX1_freeze_44 (by decide) (fun c20 => ?_) (fun c20 => ?_)
    · exact hJ6 S4 _ _ (by exact (if_neg c20).symm) hI
    · refine lv_aload_n hx hb dX1_freeze_47 rfl (lv_at hl 1 rfl) ?_
      refine lv_dup hx hb dX1_freeze_48 rfl ?_
      refine gX1_9 (i := it) hx hb hts hown hK hI hit dX1_freeze_49 ?_
      refine lv_aload_n hx hb dX1_freeze_52 rfl (lv_at hl 1 rfl) ?_
      refine lv_iload_n hx hb dX1_freeze_53 rfl (lv_at hl 2 rfl) ?_
      refine cVv (rest := [.int (S4.1 1 it 3), .ref (Z.A 1 it)]) hx hb hml hts hown hK hE hI (cX_growth G Z S4 it ud hit) kX1_82 ⟨Nat.le_of_ble_eq_true rfl, Nat.le_of_ble_eq_true rfl⟩ rfl rfl (kk := 1) (ii := it) (xW1 hit) rfl rfl hl.1 rfl (Nat.le_of_ble_eq_true rfl) dX1_freeze_54 ⟨Nat.zero_le _, Nat.zero_le _⟩ (fun H locs hI => ?_)
      refine lv_iadd hx hb dX1_freeze_57 ?_
      obtain ⟨S21, eS21⟩ : ∃ z : XS, z = xset S4 1 it 3 ((S4.1 1 it 3) + (X_growth Z S4 it ud)) := ⟨_, rfl⟩
      refine pX1_9 (i := it) hx hb hts hown hK hI hit eS21 dX1_freeze_58 (fun H locs hI => ?_)
      exact hJ6 S21 _ _ (by subst eS21; exact (if_pos c20).symm) hI
  · have HE : X_freeze Z S it ud = S := by exact (if_pos c1)
    exact rt_v hx hb hr hlocks hI hA hQ ⟨rfl, by rw [HE]⟩ (Nat.zero_le _) (Nat.zero_le _) dX1_freeze_8

def X_thaw (Z : XZ) (S : XS) (it : Nat) (ud : Int32) : XS :=
  let x1 := if (6 * ud) < (S.1 1 it 6) then (6 * ud) else (S.1 1 it 6)
  let S2 := xset S 1 it 6 ((S.1 1 it 6) - x1)
  let x3 := if ((6 * ud) - x1) < (S2.1 1 it 4) then ((6 * ud) - x1) else (S2.1 1 it 4)
  let S4 := xset S2 1 it 4 ((S2.1 1 it 4) - x3)
  let x5 := if (((6 * ud) - x1) - x3) < (S4.1 1 it 3) then (((6 * ud) - x1) - x3) else (S4.1 1 it 3)
  let S6 := xset S4 1 it 3 ((S4.1 1 it 3) - x5)
  if 0 ≤ (Op.cmpValue (FP.dcmp (FP.dsub ((S6.2.1 it).1) (FP.dadd (FP.i2d x5) (FP.dmul (4602678819172646912 : UInt64) (FP.i2d x3)))) FP.dconst0) CmpOp.g) then
    let S8 := xkset S6 it ⟨FP.dsub ((S6.2.1 it).1) (FP.dadd (FP.i2d x5) (FP.dmul (4602678819172646912 : UInt64) (FP.i2d x3))), (nn_less (S6.2.1 it).2 _ _)⟩
    let S9 := if (S8.1 1 it 7) = 1 then (xset S8 1 it 7 2) else S8
    S9
  else
    let S13 := xkset S6 it ⟨FP.dconst0, nn_0⟩
    let S14 := if (S13.1 1 it 7) = 1 then (xset S13 1 it 7 2) else S13
    S14
set_option maxHeartbeats 4000000 in
set_option maxRecDepth 100000 in
theorem cX_thaw (G : GX) (Z : XZ) (S : XS) (it : Nat) (ud : Int32) (hit : it < Z.O 1) : FC G yX1_thaw cX1_thaw 8 none ({ frames := 1, cells := 0, slots := 0, locals := 21 }) [.ref (Z.A 1 it), .int ud] (xW G.2.2.2 G.2.1 Z S) (p0 (xW G.2.2.2 G.2.1 Z (X_thaw Z S it ud))) := by
  refine FC.go (lv := [(0, .ref (Z.A 1 it)), (1, .int ud)]) (by decide) (Nat.le_of_ble_eq_true rfl) rfl (fun p e s m args below meth c A H locs ls Q hx hb hr hts hown hml hlocks hnm hK hE hI hA hl hQ => ?_)
  have hown : s.vm.findClass RX1 = some m.cls := hown
  refine lv_bipush (v := 6) hx hb dX1_thaw_0 (by decide) ?_
  refine lv_iload_n hx hb dX1_thaw_2 rfl (lv_at hl 1 rfl) ?_
  refine lv_imul hx hb dX1_thaw_3 ?_
  refine lv_istore_n (lv' := [(2, .int (6 * ud)), (0, .ref (Z.A 1 it)), (1, .int ud)]) hx hb dX1_thaw_4 rfl hl (by decide) rfl (fun ls hl => ?_)
  refine lv_aload_n hx hb dX1_thaw_5 rfl (lv_at hl 1 rfl) ?_
  refine gX1_21 (i := it) hx hb hts hown hK hI hit dX1_thaw_6 ?_
  refine lv_iload_n hx hb dX1_thaw_9 rfl (lv_at hl 0 rfl) ?_
  obtain ⟨x1, ex1⟩ : ∃ z : Int32, z = (if (6 * ud) < (S.1 1 it 6) then (6 * ud) else (S.1 1 it 6)) := ⟨_, rfl⟩
  refine va_mmin (rest := []) hx hb (by rw [hml]; exact hl.1.symm) hown (hts _ q554) (hts _ q334) (hts _ q12) (hts _ q335) (Nat.le_of_ble_eq_true rfl) (Nat.le_of_ble_eq_true rfl) (Nat.zero_le _) (Nat.zero_le _) dX1_thaw_10 ?_
  rw [← ex1]
  refine lv_istore_n (lv' := [(3, .int x1), (2, .int (6 * ud)), (0, .ref (Z.A 1 it)), (1, .int ud)]) hx hb dX1_thaw_13 rfl hl (by decide) rfl (fun ls hl => ?_)
  refine lv_aload_n hx hb dX1_thaw_14 rfl (lv_at hl 2 rfl) ?_
  refine lv_dup hx hb dX1_thaw_15 rfl ?_
  refine gX1_21 (i := it) hx hb hts hown hK hI hit dX1_thaw_16 ?_
  refine lv_iload_n hx hb dX1_thaw_19 rfl (lv_at hl 0 rfl) ?_
  refine lv_isub hx hb dX1_thaw_20 ?_
  obtain ⟨S2, eS2⟩ : ∃ z : XS, z = xset S 1 it 6 ((S.1 1 it 6) - x1) := ⟨_, rfl⟩
  refine pX1_21 (i := it) hx hb hts hown hK hI hit eS2 dX1_thaw_21 (fun H locs hI => ?_)
  refine lv_iload_n hx hb dX1_thaw_24 rfl (lv_at hl 1 rfl) ?_
  refine lv_iload_n hx hb dX1_thaw_25 rfl (lv_at hl 0 rfl) ?_
  refine lv_isub hx hb dX1_thaw_26 ?_
  refine lv_istore_n (lv' := [(2, .int ((6 * ud) - x1)), (3, .int x1), (0, .ref (Z.A 1 it)), (1, .int ud)]) hx hb dX1_thaw_27 rfl hl (by decide) rfl (fun ls hl => ?_)
  refine lv_aload_n hx hb dX1_thaw_28 rfl (lv_at hl 2 rfl) ?_
  refine gX1_15 (i := it) hx hb hts hown hK hI hit dX1_thaw_29 ?_
  refine lv_iload_n hx hb dX1_thaw_32 rfl (lv_at hl 0 rfl) ?_
  obtain ⟨x3, ex3⟩ : ∃ z : Int32, z = (if ((6 * ud) - x1) < (S2.1 1 it 4) then ((6 * ud) - x1) else (S2.1 1 it 4)) := ⟨_, rfl⟩
  refine va_mmin (rest := []) hx hb (by rw [hml]; exact hl.1.symm) hown (hts _ q554) (hts _ q334) (hts _ q12) (hts _ q335) (Nat.le_of_ble_eq_true rfl) (Nat.le_of_ble_eq_true rfl) (Nat.zero_le _) (Nat.zero_le _) dX1_thaw_33 ?_
  rw [← ex3]
  refine lv_istore (lv' := [(4, .int x3), (2, .int ((6 * ud) - x1)), (3, .int x1), (0, .ref (Z.A 1 it)), (1, .int ud)]) hx hb dX1_thaw_36 hl (by decide) rfl (fun ls hl => ?_)
  refine lv_aload_n hx hb dX1_thaw_38 rfl (lv_at hl 3 rfl) ?_
  refine lv_dup hx hb dX1_thaw_39 rfl ?_
  refine gX1_15 (i := it) hx hb hts hown hK hI hit dX1_thaw_40 ?_
  refine lv_iload hx hb dX1_thaw_43 (lv_at hl 0 rfl) ?_
  refine lv_isub hx hb dX1_thaw_45 ?_
  obtain ⟨S4, eS4⟩ : ∃ z : XS, z = xset S2 1 it 4 ((S2.1 1 it 4) - x3) := ⟨_, rfl⟩
  refine pX1_15 (i := it) hx hb hts hown hK hI hit eS4 dX1_thaw_46 (fun H locs hI => ?_)
  refine lv_iload_n hx hb dX1_thaw_49 rfl (lv_at hl 1 rfl) ?_
  refine lv_iload hx hb dX1_thaw_50 (lv_at hl 0 rfl) ?_
  refine lv_isub hx hb dX1_thaw_52 ?_
  refine lv_istore_n (lv' := [(2, .int (((6 * ud) - x1) - x3)), (4, .int x3), (3, .int x1), (0, .ref (Z.A 1 it)), (1, .int ud)]) hx hb dX1_thaw_53 rfl hl (by decide) rfl (fun ls hl => ?_)
  refine lv_aload_n hx hb dX1_thaw_54 rfl (lv_at hl 3 rfl) ?_
  refine gX1_9 (i := it) hx hb hts hown hK hI hit dX1_thaw_55 ?_
  refine lv_iload_n hx hb dX1_thaw_58 rfl (lv_at hl 0 rfl) ?_
  obtain ⟨x5, ex5⟩ : ∃ z : Int32, z = (if (((6 * ud) - x1) - x3) < (S4.1 1 it 3) then (((6 * ud) - x1) - x3) else (S4.1 1 it 3)) := ⟨_, rfl⟩
  refine va_mmin (rest := []) hx hb (by rw [hml]; exact hl.1.symm) hown (hts _ q554) (hts _ q334) (hts _ q12) (hts _ q335) (Nat.le_of_ble_eq_true rfl) (Nat.le_of_ble_eq_true rfl) (Nat.zero_le _) (Nat.zero_le _) dX1_thaw_59 ?_
  rw [← ex5]
  refine lv_istore (lv' := [(5, .int x5), (2, .int (((6 * ud) - x1) - x3)), (4, .int x3), (3, .int x1), (0, .ref (Z.A 1 it)), (1, .int ud)]) hx hb dX1_thaw_62 hl (by decide) rfl (fun ls hl => ?_)
  refine lv_aload_n hx hb dX1_thaw_64 rfl (lv_at hl 4 rfl) ?_
  refine lv_dup hx hb dX1_thaw_65 rfl ?_
  refine gX1_9 (i := it) hx hb hts hown hK hI hit dX1_thaw_66 ?_
  refine lv_iload hx hb dX1_thaw_69 (lv_at hl 0 rfl) ?_
  refine lv_isub hx hb dX1_thaw_71 ?_
  obtain ⟨S6, eS6⟩ : ∃ z : XS, z = xset S4 1 it 3 ((S4.1 1 it 3) - x5) := ⟨_, rfl⟩
  refine pX1_9 (i := it) hx hb hts hown hK hI hit eS6 dX1_thaw_72 (fun H locs hI => ?_)
  refine lv_aload_n hx hb dX1_thaw_75 rfl (lv_at hl 4 rfl) ?_
  refine gX1_33 (i := it) hx hb hts hown hK hI hit dX1_thaw_76 ?_
  refine lv_iload hx hb dX1_thaw_79 (lv_at hl 0 rfl) ?_
  refine lv_i2d hx hb dX1_thaw_81 ?_
  refine lv_ldc2d (v := 4602678819172646912) hx hb hown (hts _ q414) dX1_thaw_82 ?_
  refine lv_iload hx hb dX1_thaw_85 (lv_at hl 2 rfl) ?_
  refine lv_i2d hx hb dX1_thaw_87 ?_
  refine lv_dmul hx hb dX1_thaw_88 (nn_half _) ?_
  refine lv_dadd hx hb dX1_thaw_89 (nn_thick _ _) ?_
  refine lv_dsub hx hb dX1_thaw_90 (nn_less (S6.2.1 it).2 _ _) ?_
  refine lv_dstore (lv' := [(6, .double (FP.dsub ((S6.2.1 it).1) (FP.dadd (FP.i2d x5) (FP.dmul (4602678819172646912 : UInt64) (FP.i2d x3))))), (5, .int x5), (2, .int (((6 * ud) - x1) - x3)), (4, .int x3), (3, .int x1), (0, .ref (Z.A 1 it)), (1, .int ud)]) hx hb dX1_thaw_91 hl (by decide) rfl (fun ls hl => ?_)
  refine lv_aload_n hx hb dX1_thaw_93 rfl (lv_at hl 5 rfl) ?_
  refine lv_dload hx hb dX1_thaw_94 (lv_at hl 0 rfl) ?_
  refine lv_dconst0 hx hb dX1_thaw_96 ?_
  refine lv_dcmp hx hb dX1_thaw_97 ?_
  refine lv_if_ge (tgt := 105) hx hb dX1_thaw_98 (by decide) (fun c7 => ?_) (fun c7 => ?_)
  · refine lv_dload hx hb dX1_thaw_105 (lv_at hl 0 rfl) ?_
    obtain ⟨S8, eS8⟩ : ∃ z : XS, z = xkset S6 it ⟨FP.dsub ((S6.2.1 it).1) (FP.dadd (FP.i2d x5) (FP.dmul (4602678819172646912 : UInt64) (FP.i2d x3))), (nn_less (S6.2.1 it).2 _ _)⟩ := ⟨_, rfl⟩
    refine pX1_33 (x := ⟨FP.dsub ((S6.2.1 it).1) (FP.dadd (FP.i2d x5) (FP.dmul (4602678819172646912 : UInt64) (FP.i2d x3))), (nn_less (S6.2.1 it).2 _ _)⟩) (i := it) hx hb hts hown hK hI hit eS8 dX1_thaw_107 (fun H locs hI => ?_)
    refine lv_aload_n hx hb dX1_thaw_110 rfl (lv_at hl 5 rfl) ?_
    refine gX1_24 (i := it) hx hb hts hown hK hI hit dX1_thaw_111 ?_
    refine lv_iconst (v := 1) hx hb dX1_thaw_114 (by decide) ?_
    have hJ10 : ∀ (S9 : XS) (H : Heap) (locs : List Loc), (S9 = if (S8.1 1 it 7) = 1 then (xset S8 1 it 7 2) else S8) → (fI G.2.2.1 A s.heap (xW G.2.2.2 G.2.1 Z S9) H locs) → W p G.1 e ({ frames := 1, cells := 0, slots := 0, locals := 21 }) s m args below meth c H locs 0 0 Q (F0 m 123 ls []) := by
      intro S9 H locs eS9 hI
      have HE : X_thaw Z S it ud = S9 := by subst eS9 eS8 eS6 ex5 eS4 ex3 eS2 ex1; exact (if_pos c7)
      exact rt_v hx hb hr hlocks hI hA hQ ⟨rfl, by rw [HE]⟩ (Nat.zero_le _) (Nat.zero_le _) dX1_thaw_123
    refine lv_icmp_ne (tgt := 123) hx hb dX1_thaw_115 (by decide) (fun c11 => ?_) (fun c11 => ?_)
    · exact hJ10 S8 _ _ (by exact (if_neg c11).symm) hI
    · refine lv_aload_n hx hb dX1_thaw_118 rfl (lv_at hl 5 rfl) ?_
      refine lv_iconst (v := 2) hx hb dX1_thaw_119 (by decide) ?_
      obtain ⟨S12, eS12⟩ : ∃ z : XS, z = xset S8 1 it 7 2 := ⟨_, rfl⟩
      refine pX1_24 (i := it) hx hb hts hown hK hI hit eS12 dX1_thaw_120 (fun H locs hI => ?_)
      exact hJ10 S12 _ _ (by subst eS12; exact (if_pos c11).symm) hI
  · refine lv_dconst0 hx hb dX1_thaw_101 ?_
    refine lv_goto (tgt := 107) hx hb dX1_thaw_102 (by decide) ?_
    obtain ⟨S13, eS13⟩ : ∃ z : XS, z = xkset S6 it ⟨FP.dconst0, nn_0⟩ := ⟨_, rfl⟩
    refine pX1_33 (x := ⟨FP.dconst0, nn_0⟩) (i := it) hx hb hts hown hK hI hit eS13 dX1_thaw_107 (fun H locs hI => ?_)
    refine lv_aload_n hx hb dX1_thaw_110 rfl (lv_at hl 5 rfl) ?_
    refine gX1_24 (i := it) hx hb hts hown hK hI hit dX1_thaw_111 ?_
    refine lv_iconst (v := 1) hx hb dX1_thaw_114 (by decide) ?_
    have hJ15 : ∀ (S14 : XS) (H : Heap) (locs : List Loc), (S14 = if (S13.1 1 it 7) = 1 then (xset S13 1 it 7 2) else S13) → (fI G.2.2.1 A s.heap (xW G.2.2.2 G.2.1 Z S14) H locs) → W p G.1 e ({ frames := 1, cells := 0, slots := 0, locals := 21 }) s m args below meth c H locs 0 0 Q (F0 m 123 ls []) := by
      intro S14 H locs eS14 hI
      have HE : X_thaw Z S it ud = S14 := by subst eS14 eS13 eS6 ex5 eS4 ex3 eS2 ex1; exact (if_neg c7)
      exact rt_v hx hb hr hlocks hI hA hQ ⟨rfl, by rw [HE]⟩ (Nat.zero_le _) (Nat.zero_le _) dX1_thaw_123
    refine lv_icmp_ne (tgt := 123) hx hb dX1_thaw_115 (by decide) (fun c16 => ?_) (fun c16 => ?_)
    · exact hJ15 S13 _ _ (by exact (if_neg c16).symm) hI
    · refine lv_aload_n hx hb dX1_thaw_118 rfl (lv_at hl 5 rfl) ?_
      refine lv_iconst (v := 2) hx hb dX1_thaw_119 (by decide) ?_
      obtain ⟨S17, eS17⟩ : ∃ z : XS, z = xset S13 1 it 7 2 := ⟨_, rfl⟩
      refine pX1_24 (i := it) hx hb hts hown hK hI hit eS17 dX1_thaw_120 (fun H locs hI => ?_)
      exact hJ15 S17 _ _ (by subst eS17; exact (if_pos c16).symm) hI

def X_countOn (Z : XZ) (S : XS) (it : Nat) (ub : Int32) : Int32 :=
  let x1 := if ub = 0 then (S.1 1 it 12) else (S.1 1 it 11)
  x1
set_option maxHeartbeats 4000000 in
set_option maxRecDepth 100000 in
theorem cX_countOn (G : GX) (Z : XZ) (S : XS) (it : Nat) (ub : Int32) (hit : it < Z.O 1) : FC G yX1_countOn cX1_countOn 2 (some .int) ({ frames := 0, cells := 0, slots := 0, locals := 0 }) [.ref (Z.A 1 it), .int ub] (xW G.2.2.2 G.2.1 Z S) (pv (.int (X_countOn Z S it ub)) (xW G.2.2.2 G.2.1 Z S)) := by
  refine FC.go (lv := [(0, .ref (Z.A 1 it)), (1, .int ub)]) (by decide) (Nat.le_of_ble_eq_true rfl) rfl (fun p e s m args below meth c A H locs ls Q hx hb hr hts hown hml hlocks hnm hK hE hI hA hl hQ => ?_)
  have hown : s.vm.findClass RX1 = some m.cls := hown
  refine lv_iload_n hx hb dX1_countOn_0 rfl (lv_at hl 1 rfl) ?_
  have hJ2 : ∀ (x1 : Int32), (x1 = if ub = 0 then (S.1 1 it 12) else (S.1 1 it 11)) → W p G.1 e ({ frames := 0, cells := 0, slots := 0, locals := 0 }) s m args below meth c H locs 0 0 Q (F0 m 15 ls [.int x1]) := by
    intro x1 ex1
    have HE : X_countOn Z S it ub = x1 := by subst ex1; exact rfl
    exact rt_i hx hb hr hlocks hI hA hQ ⟨by rw [HE], rfl⟩ (Nat.zero_le _) (Nat.zero_le _) dX1_countOn_15
  refine lv_if_eq (tgt := 11) hx hb dX1_countOn_1 (by decide) (fun c3 => ?_) (fun c3 => ?_)
  · refine lv_aload_n hx hb dX1_countOn_11 rfl (lv_at hl 0 rfl) ?_
    refine gX1_40 (i := it) hx hb hts hown hK hI hit dX1_countOn_12 ?_
    exact hJ2 (S.1 1 it 12) (by exact (if_pos c3).symm)
  · refine lv_aload_n hx hb dX1_countOn_4 rfl (lv_at hl 0 rfl) ?_
    refine gX1_37 (i := it) hx hb hts hown hK hI hit dX1_countOn_5 ?_
    refine lv_goto (tgt := 15) hx hb dX1_countOn_8 (by decide) ?_
    exact hJ2 (S.1 1 it 11) (by exact (if_neg c3).symm)

def X_lastComing (Z : XZ) (S : XS) (it : Nat) (ub : Int32) : Int32 :=
  let x1 := if ub = 0 then (S.1 1 it 15) else (S.1 1 it 14)
  x1
set_option maxHeartbeats 4000000 in
set_option maxRecDepth 100000 in
theorem cX_lastComing (G : GX) (Z : XZ) (S : XS) (it : Nat) (ub : Int32) (hit : it < Z.O 1) : FC G yX1_lastComing cX1_lastComing 2 (some .int) ({ frames := 0, cells := 0, slots := 0, locals := 0 }) [.ref (Z.A 1 it), .int ub] (xW G.2.2.2 G.2.1 Z S) (pv (.int (X_lastComing Z S it ub)) (xW G.2.2.2 G.2.1 Z S)) := by
  refine FC.go (lv := [(0, .ref (Z.A 1 it)), (1, .int ub)]) (by decide) (Nat.le_of_ble_eq_true rfl) rfl (fun p e s m args below meth c A H locs ls Q hx hb hr hts hown hml hlocks hnm hK hE hI hA hl hQ => ?_)
  have hown : s.vm.findClass RX1 = some m.cls := hown
  refine lv_iload_n hx hb dX1_lastComing_0 rfl (lv_at hl 1 rfl) ?_
  have hJ2 : ∀ (x1 : Int32), (x1 = if ub = 0 then (S.1 1 it 15) else (S.1 1 it 14)) → W p G.1 e ({ frames := 0, cells := 0, slots := 0, locals := 0 }) s m args below meth c H locs 0 0 Q (F0 m 15 ls [.int x1]) := by
    intro x1 ex1
    have HE : X_lastComing Z S it ub = x1 := by subst ex1; exact rfl
    exact rt_i hx hb hr hlocks hI hA hQ ⟨by rw [HE], rfl⟩ (Nat.zero_le _) (Nat.zero_le _) dX1_lastComing_15
  refine lv_if_eq (tgt := 11) hx hb dX1_lastComing_1 (by decide) (fun c3 => ?_) (fun c3 => ?_)
  · refine lv_aload_n hx hb dX1_lastComing_11 rfl (lv_at hl 0 rfl) ?_
    refine gX1_49 (i := it) hx hb hts hown hK hI hit dX1_lastComing_12 ?_
    exact hJ2 (S.1 1 it 15) (by exact (if_pos c3).symm)
  · refine lv_aload_n hx hb dX1_lastComing_4 rfl (lv_at hl 0 rfl) ?_
    refine gX1_46 (i := it) hx hb hts hown hK hI hit dX1_lastComing_5 ?_
    refine lv_goto (tgt := 15) hx hb dX1_lastComing_8 (by decide) ?_
    exact hJ2 (S.1 1 it 14) (by exact (if_neg c3).symm)

def X_noteComing (Z : XZ) (S : XS) (it : Nat) (ub : Int32) (uk : Int32) : XS :=
  let S1 := if ub = 0 then (xset S 1 it 15 uk) else (xset S 1 it 14 uk)
  S1
set_option maxHeartbeats 4000000 in
set_option maxRecDepth 100000 in
theorem cX_noteComing (G : GX) (Z : XZ) (S : XS) (it : Nat) (ub : Int32) (uk : Int32) (hit : it < Z.O 1) : FC G yX1_noteComing cX1_noteComing 3 none ({ frames := 0, cells := 0, slots := 0, locals := 0 }) [.ref (Z.A 1 it), .int ub, .int uk] (xW G.2.2.2 G.2.1 Z S) (p0 (xW G.2.2.2 G.2.1 Z (X_noteComing Z S it ub uk))) := by
  refine FC.go (lv := [(0, .ref (Z.A 1 it)), (1, .int ub), (2, .int uk)]) (by decide) (Nat.le_of_ble_eq_true rfl) rfl (fun p e s m args below meth c A H locs ls Q hx hb hr hts hown hml hlocks hnm hK hE hI hA hl hQ => ?_)
  have hown : s.vm.findClass RX1 = some m.cls := hown
  refine lv_iload_n hx hb dX1_noteComing_0 rfl (lv_at hl 1 rfl) ?_
  have hJ2 : ∀ (S1 : XS) (H : Heap) (locs : List Loc), (S1 = if ub = 0 then (xset S 1 it 15 uk) else (xset S 1 it 14 uk)) → (fI G.2.2.1 A s.heap (xW G.2.2.2 G.2.1 Z S1) H locs) → W p G.1 e ({ frames := 0, cells := 0, slots := 0, locals := 0 }) s m args below meth c H locs 0 0 Q (F0 m 17 ls []) := by
    intro S1 H locs eS1 hI
    have HE : X_noteComing Z S it ub uk = S1 := by subst eS1; exact rfl
    exact rt_v hx hb hr hlocks hI hA hQ ⟨rfl, by rw [HE]⟩ (Nat.zero_le _) (Nat.zero_le _) dX1_noteComing_17
  refine lv_if_eq (tgt := 12) hx hb dX1_noteComing_1 (by decide) (fun c3 => ?_) (fun c3 => ?_)
  · refine lv_aload_n hx hb dX1_noteComing_12 rfl (lv_at hl 0 rfl) ?_
    refine lv_iload_n hx hb dX1_noteComing_13 rfl (lv_at hl 2 rfl) ?_
    obtain ⟨S4, eS4⟩ : ∃ z : XS, z = xset S 1 it 15 uk := ⟨_, rfl⟩
    refine pX1_49 (i := it) hx hb hts hown hK hI hit eS4 dX1_noteComing_14 (fun H locs hI => ?_)
    exact hJ2 S4 _ _ (by subst eS4; exact (if_pos c3).symm) hI
  · refine lv_aload_n hx hb dX1_noteComing_4 rfl (lv_at hl 0 rfl) ?_
    refine lv_iload_n hx hb dX1_noteComing_5 rfl (lv_at hl 2 rfl) ?_
    obtain ⟨S5, eS5⟩ : ∃ z : XS, z = xset S 1 it 14 uk := ⟨_, rfl⟩
    refine pX1_46 (i := it) hx hb hts hown hK hI hit eS5 dX1_noteComing_6 (fun H locs hI => ?_)
    refine lv_goto (tgt := 17) hx hb dX1_noteComing_9 (by decide) ?_
    exact hJ2 S5 _ _ (by subst eS5; exact (if_neg c3).symm) hI

def X_takeOn (Z : XZ) (S : XS) (it : Nat) (jv : Nat) : XS :=
  let S1 := xset S 1 it 13 ((S.1 1 it 13) + (X_weight Z S jv))
  let S2 := if (S1.1 2 jv 5) = 0 then (xset S1 1 it 12 ((S1.1 1 it 12) + 1)) else (xset S1 1 it 11 ((S1.1 1 it 11) + 1))
  S2
set_option maxHeartbeats 4000000 in
set_option maxRecDepth 100000 in
theorem cX_takeOn (G : GX) (Z : XZ) (S : XS) (it : Nat) (jv : Nat) (hit : it < Z.O 1) (hjv : jv < Z.O 2) (hC : CW Z S) : FC G yX1_takeOn cX1_takeOn 2 none ({ frames := 1, cells := 0, slots := 0, locals := 20 }) [.ref (Z.A 1 it), .ref (Z.A 2 jv)] (xW G.2.2.2 G.2.1 Z S) (p0 (xW G.2.2.2 G.2.1 Z (X_takeOn Z S it jv))) := by
  refine FC.go (lv := [(0, .ref (Z.A 1 it)), (1, .ref (Z.A 2 jv))]) (by decide) (Nat.le_of_ble_eq_true rfl) rfl (fun p e s m args below meth c A H locs ls Q hx hb hr hts hown hml hlocks hnm hK hE hI hA hl hQ => ?_)
  have hown : s.vm.findClass RX1 = some m.cls := hown
  refine lv_aload_n hx hb dX1_takeOn_0 rfl (lv_at hl 0 rfl) ?_
  refine lv_dup hx hb dX1_takeOn_1 rfl ?_
  refine gX1_43 (i := it) hx hb hts hown hK hI hit dX1_takeOn_2 ?_
  refine lv_aload_n hx hb dX1_takeOn_5 rfl (lv_at hl 1 rfl) ?_
  refine cVv (rest := [.int (S.1 1 it 13), .ref (Z.A 1 it)]) hx hb hml hts hown hK hE hI (cX_weight G Z S jv hjv hC) kX1_102 ⟨Nat.le_of_ble_eq_true rfl, Nat.le_of_ble_eq_true rfl⟩ rfl rfl (kk := 2) (ii := jv) (xW2 hjv) rfl rfl hl.1 rfl (Nat.le_of_ble_eq_true rfl) dX1_takeOn_6 ⟨Nat.zero_le _, Nat.zero_le _⟩ (fun H locs hI => ?_)
  refine lv_iadd hx hb dX1_takeOn_9 ?_
  obtain ⟨S1, eS1⟩ : ∃ z : XS, z = xset S 1 it 13 ((S.1 1 it 13) + (X_weight Z S jv)) := ⟨_, rfl⟩
  refine pX1_43 (i := it) hx hb hts hown hK hI hit eS1 dX1_takeOn_10 (fun H locs hI => ?_)
  refine lv_aload_n hx hb dX1_takeOn_13 rfl (lv_at hl 1 rfl) ?_
  refine gX1_106 (i := jv) hx hb hts hown hK hI hjv dX1_takeOn_14 ?_
  have hJ4 : ∀ (S2 : XS) (H : Heap) (locs : List Loc), (S2 = if (S1.1 2 jv 5) = 0 then (xset S1 1 it 12 ((S1.1 1 it 12) + 1)) else (xset S1 1 it 11 ((S1.1 1 it 11) + 1))) → (fI G.2.2.1 A s.heap (xW G.2.2.2 G.2.1 Z S2) H locs) → (CW Z S2) → W p G.1 e ({ frames := 1, cells := 0, slots := 0, locals := 20 }) s m args below meth c H locs 0 0 Q (F0 m 43 ls []) := by
    intro S2 H locs eS2 hI hf3
    have HE : X_takeOn Z S it jv = S2 := by subst eS2 eS1; exact rfl
    exact rt_v hx hb hr hlocks hI hA hQ ⟨rfl, by rw [HE]⟩ (Nat.zero_le _) (Nat.zero_le _) dX1_takeOn_43
  refine lv_if_eq (tgt := 33) hx hb dX1_takeOn_17 (by decide) (fun c5 => ?_) (fun c5 => ?_)
  · refine lv_aload_n hx hb dX1_takeOn_33 rfl (lv_at hl 0 rfl) ?_
    refine lv_dup hx hb dX1_takeOn_34 rfl ?_
    refine gX1_40 (i := it) hx hb hts hown hK hI hit dX1_takeOn_35 ?_
    refine lv_iconst (v := 1) hx hb dX1_takeOn_38 (by decide) ?_
    refine lv_iadd hx hb dX1_takeOn_39 ?_
    obtain ⟨S6, eS6⟩ : ∃ z : XS, z = xset S1 1 it 12 ((S1.1 1 it 12) + 1) := ⟨_, rfl⟩
    refine pX1_40 (i := it) hx hb hts hown hK hI hit eS6 dX1_takeOn_40 (fun H locs hI => ?_)
    exact hJ4 S6 _ _ (by subst eS6; exact (if_pos c5).symm) hI (CW_set eS6 (CW_set eS1 hC))
  · refine lv_aload_n hx hb dX1_takeOn_20 rfl (lv_at hl 0 rfl) ?_
    refine lv_dup hx hb dX1_takeOn_21 rfl ?_
    refine gX1_37 (i := it) hx hb hts hown hK hI hit dX1_takeOn_22 ?_
    refine lv_iconst (v := 1) hx hb dX1_takeOn_25 (by decide) ?_
    refine lv_iadd hx hb dX1_takeOn_26 ?_
    obtain ⟨S7, eS7⟩ : ∃ z : XS, z = xset S1 1 it 11 ((S1.1 1 it 11) + 1) := ⟨_, rfl⟩
    refine pX1_37 (i := it) hx hb hts hown hK hI hit eS7 dX1_takeOn_27 (fun H locs hI => ?_)
    refine lv_goto (tgt := 43) hx hb dX1_takeOn_30 (by decide) ?_
    exact hJ4 S7 _ _ (by subst eS7; exact (if_neg c5).symm) hI (CW_set eS7 (CW_set eS1 hC))

def X_letOff (Z : XZ) (S : XS) (it : Nat) (jv : Nat) : XS :=
  let S1 := xset S 1 it 13 ((S.1 1 it 13) - (X_weight Z S jv))
  let S2 := if (S1.1 2 jv 5) = 0 then (xset S1 1 it 12 ((S1.1 1 it 12) - 1)) else (xset S1 1 it 11 ((S1.1 1 it 11) - 1))
  let S5 := if X_isWaterPiece Z S2 it then (xset S2 1 it 3 (if 0 < ((S2.1 1 it 3) - ((X_weight Z S jv) / 20000)) then ((S2.1 1 it 3) - ((X_weight Z S jv) / 20000)) else 0)) else S2
  S5
set_option maxHeartbeats 4000000 in
set_option maxRecDepth 100000 in
theorem cX_letOff (G : GX) (Z : XZ) (S : XS) (it : Nat) (jv : Nat) (hit : it < Z.O 1) (hjv : jv < Z.O 2) (hC : CW Z S) : FC G yX1_letOff cX1_letOff 3 none ({ frames := 1, cells := 0, slots := 0, locals := 21 }) [.ref (Z.A 1 it), .ref (Z.A 2 jv)] (xW G.2.2.2 G.2.1 Z S) (p0 (xW G.2.2.2 G.2.1 Z (X_letOff Z S it jv))) := by
  refine FC.go (lv := [(0, .ref (Z.A 1 it)), (1, .ref (Z.A 2 jv))]) (by decide) (Nat.le_of_ble_eq_true rfl) rfl (fun p e s m args below meth c A H locs ls Q hx hb hr hts hown hml hlocks hnm hK hE hI hA hl hQ => ?_)
  have hown : s.vm.findClass RX1 = some m.cls := hown
  refine lv_aload_n hx hb dX1_letOff_0 rfl (lv_at hl 1 rfl) ?_
  refine cVv (rest := []) hx hb hml hts hown hK hE hI (cX_weight G Z S jv hjv hC) kX1_102 ⟨Nat.le_of_ble_eq_true rfl, Nat.le_of_ble_eq_true rfl⟩ rfl rfl (kk := 2) (ii := jv) (xW2 hjv) rfl rfl hl.1 rfl (Nat.le_of_ble_eq_true rfl) dX1_letOff_1 ⟨Nat.zero_le _, Nat.zero_le _⟩ (fun H locs hI => ?_)
  refine lv_istore_n (lv' := [(2, .int (X_weight Z S jv)), (0, .ref (Z.A 1 it)), (1, .ref (Z.A 2 jv))]) hx hb dX1_letOff_4 rfl hl (by decide) rfl (fun ls hl => ?_)
  refine lv_aload_n hx hb dX1_letOff_5 rfl (lv_at hl 1 rfl) ?_
  refine lv_dup hx hb dX1_letOff_6 rfl ?_
  refine gX1_43 (i := it) hx hb hts hown hK hI hit dX1_letOff_7 ?_
  refine lv_iload_n hx hb dX1_letOff_10 rfl (lv_at hl 0 rfl) ?_
  refine lv_isub hx hb dX1_letOff_11 ?_
  obtain ⟨S1, eS1⟩ : ∃ z : XS, z = xset S 1 it 13 ((S.1 1 it 13) - (X_weight Z S jv)) := ⟨_, rfl⟩
  refine pX1_43 (i := it) hx hb hts hown hK hI hit eS1 dX1_letOff_12 (fun H locs hI => ?_)
  refine lv_aload_n hx hb dX1_letOff_15 rfl (lv_at hl 2 rfl) ?_
  refine gX1_106 (i := jv) hx hb hts hown hK hI hjv dX1_letOff_16 ?_
  have hJ4 : ∀ (S2 : XS) (H : Heap) (locs : List Loc), (S2 = if (S1.1 2 jv 5) = 0 then (xset S1 1 it 12 ((S1.1 1 it 12) - 1)) else (xset S1 1 it 11 ((S1.1 1 it 11) - 1))) → (fI G.2.2.1 A s.heap (xW G.2.2.2 G.2.1 Z S2) H locs) → (CW Z S2) → W p G.1 e ({ frames := 1, cells := 0, slots := 0, locals := 21 }) s m args below meth c H locs 0 0 Q (F0 m 45 ls []) := by
    intro S2 H locs eS2 hI hf3
    refine lv_aload_n hx hb dX1_letOff_45 rfl (lv_at hl 1 rfl) ?_
    refine cVv (rest := []) hx hb hml hts hown hK hE hI (cX_isWaterPiece G Z S2 it hit) kX1_110 ⟨Nat.le_of_ble_eq_true rfl, Nat.le_of_ble_eq_true rfl⟩ rfl rfl (kk := 1) (ii := it) (xW1 hit) rfl rfl hl.1 rfl (Nat.le_of_ble_eq_true rfl) dX1_letOff_46 ⟨Nat.zero_le _, Nat.zero_le _⟩ (fun H locs hI => ?_)
    have hJ7 : ∀ (S5 : XS) (H : Heap) (locs : List Loc), (S5 = if X_isWaterPiece Z S2 it then (xset S2 1 it 3 (if 0 < ((S2.1 1 it 3) - ((X_weight Z S jv) / 20000)) then ((S2.1 1 it 3) - ((X_weight Z S jv) / 20000)) else 0)) else S2) → (fI G.2.2.1 A s.heap (xW G.2.2.2 G.2.1 Z S5) H locs) → (CW Z S5) → W p G.1 e ({ frames := 1, cells := 0, slots := 0, locals := 21 }) s m args below meth c H locs 0 0 Q (F0 m 70 ls []) := by
      intro S5 H locs eS5 hI hf6
      have HE : X_letOff Z S it jv = S5 := by subst eS5 eS2 eS1; exact rfl
      exact rt_v hx hb hr hlocks hI hA hQ ⟨rfl, by rw [HE]⟩ (Nat.zero_le _) (Nat.zero_le _) dX1_letOff_70
    refine xb_eq (tgt := 70) hx hb dX1_letOff_49 (by decide) (fun c8 => ?_) (fun c8 => ?_)
    · exact hJ7 S2 _ _ (by exact (if_neg c8).symm) hI hf3
    · refine lv_aload_n hx hb dX1_letOff_52 rfl (lv_at hl 1 rfl) ?_
      refine lv_iconst (v := 0) hx hb dX1_letOff_53 (by decide) ?_
      refine lv_aload_n hx hb dX1_letOff_54 rfl (lv_at hl 1 rfl) ?_
      refine gX1_9 (i := it) hx hb hts hown hK hI hit dX1_letOff_55 ?_
      refine lv_iload_n hx hb dX1_letOff_58 rfl (lv_at hl 0 rfl) ?_
      refine lv_sipush (v := 20000) hx hb dX1_letOff_59 (by decide) ?_
      refine lv_idiv hx hb dX1_letOff_62 (by decide) ?_
      refine lv_isub hx hb dX1_letOff_63 ?_
      obtain ⟨x9, ex9⟩ : ∃ z : Int32, z = (if 0 < ((S2.1 1 it 3) - ((X_weight Z S jv) / 20000)) then ((S2.1 1 it 3) - ((X_weight Z S jv) / 20000)) else 0) := ⟨_, rfl⟩
      refine va_mmax (rest := [.ref (Z.A 1 it)]) hx hb (by rw [hml]; exact hl.1.symm) hown (hts _ q559) (hts _ q93) (hts _ q12) (hts _ q94) (Nat.le_of_ble_eq_true rfl) (Nat.le_of_ble_eq_true rfl) (Nat.zero_le _) (Nat.zero_le _) dX1_letOff_64 ?_
      rw [← ex9]
      obtain ⟨S10, eS10⟩ : ∃ z : XS, z = xset S2 1 it 3 x9 := ⟨_, rfl⟩
      refine pX1_9 (i := it) hx hb hts hown hK hI hit eS10 dX1_letOff_67 (fun H locs hI => ?_)
      exact hJ7 S10 _ _ (by subst eS10 ex9; exact (if_pos c8).symm) hI (CW_set eS10 hf3)
  refine lv_if_eq (tgt := 35) hx hb dX1_letOff_19 (by decide) (fun c11 => ?_) (fun c11 => ?_)
  · refine lv_aload_n hx hb dX1_letOff_35 rfl (lv_at hl 1 rfl) ?_
    refine lv_dup hx hb dX1_letOff_36 rfl ?_
    refine gX1_40 (i := it) hx hb hts hown hK hI hit dX1_letOff_37 ?_
    refine lv_iconst (v := 1) hx hb dX1_letOff_40 (by decide) ?_
    refine lv_isub hx hb dX1_letOff_41 ?_
    obtain ⟨S12, eS12⟩ : ∃ z : XS, z = xset S1 1 it 12 ((S1.1 1 it 12) - 1) := ⟨_, rfl⟩
    refine pX1_40 (i := it) hx hb hts hown hK hI hit eS12 dX1_letOff_42 (fun H locs hI => ?_)
    exact hJ4 S12 _ _ (by subst eS12; exact (if_pos c11).symm) hI (CW_set eS12 (CW_set eS1 hC))
  · refine lv_aload_n hx hb dX1_letOff_22 rfl (lv_at hl 1 rfl) ?_
    refine lv_dup hx hb dX1_letOff_23 rfl ?_
    refine gX1_37 (i := it) hx hb hts hown hK hI hit dX1_letOff_24 ?_
    refine lv_iconst (v := 1) hx hb dX1_letOff_27 (by decide) ?_
    refine lv_isub hx hb dX1_letOff_28 ?_
    obtain ⟨S13, eS13⟩ : ∃ z : XS, z = xset S1 1 it 11 ((S1.1 1 it 11) - 1) := ⟨_, rfl⟩
    refine pX1_37 (i := it) hx hb hts hown hK hI hit eS13 dX1_letOff_29 (fun H locs hI => ?_)
    refine lv_goto (tgt := 45) hx hb dX1_letOff_32 (by decide) ?_
    exact hJ4 S13 _ _ (by subst eS13; exact (if_neg c11).symm) hI (CW_set eS13 (CW_set eS1 hC))

def X_breakUp (Z : XZ) (S : XS) (it : Nat) : XS :=
  let S1 := xset S 1 it 8 0
  let S2 := if X_isWaterPiece Z S1 it then (xset S1 1 it 7 2) else S1
  S2
set_option maxHeartbeats 4000000 in
set_option maxRecDepth 100000 in
theorem cX_breakUp (G : GX) (Z : XZ) (S : XS) (it : Nat) (hit : it < Z.O 1) : FC G yX1_breakUp cX1_breakUp 1 none ({ frames := 1, cells := 0, slots := 0, locals := 20 }) [.ref (Z.A 1 it)] (xW G.2.2.2 G.2.1 Z S) (p0 (xW G.2.2.2 G.2.1 Z (X_breakUp Z S it))) := by
  refine FC.go (lv := [(0, .ref (Z.A 1 it))]) (by decide) (Nat.le_of_ble_eq_true rfl) rfl (fun p e s m args below meth c A H locs ls Q hx hb hr hts hown hml hlocks hnm hK hE hI hA hl hQ => ?_)
  have hown : s.vm.findClass RX1 = some m.cls := hown
  refine lv_aload_n hx hb dX1_breakUp_0 rfl (lv_at hl 0 rfl) ?_
  refine lv_iconst (v := 0) hx hb dX1_breakUp_1 (by decide) ?_
  obtain ⟨S1, eS1⟩ : ∃ z : XS, z = xset S 1 it 8 0 := ⟨_, rfl⟩
  refine pX1_27 (i := it) hx hb hts hown hK hI hit eS1 dX1_breakUp_2 (fun H locs hI => ?_)
  refine lv_aload_n hx hb dX1_breakUp_5 rfl (lv_at hl 0 rfl) ?_
  refine cVv (rest := []) hx hb hml hts hown hK hE hI (cX_isWaterPiece G Z S1 it hit) kX1_110 ⟨Nat.le_of_ble_eq_true rfl, Nat.le_of_ble_eq_true rfl⟩ rfl rfl (kk := 1) (ii := it) (xW1 hit) rfl rfl hl.1 rfl (Nat.le_of_ble_eq_true rfl) dX1_breakUp_6 ⟨Nat.zero_le _, Nat.zero_le _⟩ (fun H locs hI => ?_)
  have hJ3 : ∀ (S2 : XS) (H : Heap) (locs : List Loc), (S2 = if X_isWaterPiece Z S1 it then (xset S1 1 it 7 2) else S1) → (fI G.2.2.1 A s.heap (xW G.2.2.2 G.2.1 Z S2) H locs) → W p G.1 e ({ frames := 1, cells := 0, slots := 0, locals := 20 }) s m args below meth c H locs 0 0 Q (F0 m 17 ls []) := by
    intro S2 H locs eS2 hI
    have HE : X_breakUp Z S it = S2 := by subst eS2 eS1; exact rfl
    exact rt_v hx hb hr hlocks hI hA hQ ⟨rfl, by rw [HE]⟩ (Nat.zero_le _) (Nat.zero_le _) dX1_breakUp_17
  refine xb_eq (tgt := 17) hx hb dX1_breakUp_9 (by decide) (fun c4 => ?_) (fun c4 => ?_)
  · exact hJ3 S1 _ _ (by exact (if_neg c4).symm) hI
  · refine lv_aload_n hx hb dX1_breakUp_12 rfl (lv_at hl 0 rfl) ?_
    refine lv_iconst (v := 2) hx hb dX1_breakUp_13 (by decide) ?_
    obtain ⟨S5, eS5⟩ : ∃ z : XS, z = xset S1 1 it 7 2 := ⟨_, rfl⟩
    refine pX1_24 (i := it) hx hb hts hown hK hI hit eS5 dX1_breakUp_14 (fun H locs hI => ?_)
    exact hJ3 S5 _ _ (by subst eS5; exact (if_pos c4).symm) hI

/-- the speed that a wave leaves, as the class counts it -/
def X_speedW (low : UInt64) : Nat → Int32 → Int32
  | 0, x => x
  | n + 1, x => if x ≤ 1 then x else if Op.cmpValue (FP.dcmp (FP.i2d (x * x)) low) CmpOp.l ≤ 0 then x else X_speedW low n (x + (-1))
theorem i32_nle1 {x : Int32} (h : ¬ x ≤ 1) : 2 ≤ x.toInt := by
  rw [Int32.le_iff_toInt_le, show (1 : Int32).toInt = 1 by decide] at h
  omega
theorem i32_nat_le (x : Int32) : x.toInt ≤ (x.toNatClampNeg : Int) + 1 := by
  have h : x.toInt ≤ (x.toInt.toNat : Int) := Int.self_le_toNat x.toInt
  have e : x.toNatClampNeg = x.toInt.toNat := rfl
  rw [e]
  omega
def X_speedOf (Z : XZ) (S : XS) (it : Nat) (jv : Nat) : Int32 :=
  let x1 := if (S.1 1 it 9) < (S.1 2 jv 2) then (S.1 1 it 9) else (S.1 2 jv 2)
  if (S.1 1 it 0) = 2 then
    x1
  else
    if (Op.cmpValue (FP.dcmp (FP.i2d (x1 * x1)) (FP.dmul (4635217326480398746 : UInt64) (FP.i2d (S.1 1 it 2)))) CmpOp.g) ≤ 0 then
      x1
    else
      if (Op.cmpValue (FP.dcmp (FP.i2d (x1 * x1)) (FP.dmul (4637975781252163174 : UInt64) (FP.i2d (S.1 1 it 2)))) CmpOp.l) < 0 then
        let r5 := X_speedW (FP.dmul (4635217326480398746 : UInt64) (FP.i2d (S.1 1 it 2))) x1.toNatClampNeg x1
        r5
      else
        x1
set_option maxHeartbeats 4000000 in
set_option maxRecDepth 100000 in
theorem cX_speedOf (G : GX) (Z : XZ) (S : XS) (it : Nat) (jv : Nat) (hit : it < Z.O 1) (hjv : jv < Z.O 2) : FC G yX1_speedOf cX1_speedOf 8 (some .int) ({ frames := 1, cells := 0, slots := 0, locals := 21 }) [.ref (Z.A 1 it), .ref (Z.A 2 jv)] (xW G.2.2.2 G.2.1 Z S) (pv (.int (X_speedOf Z S it jv)) (xW G.2.2.2 G.2.1 Z S)) := by
  refine FC.go (lv := [(0, .ref (Z.A 1 it)), (1, .ref (Z.A 2 jv))]) (by decide) (Nat.le_of_ble_eq_true rfl) rfl (fun p e s m args below meth c A H locs ls Q hx hb hr hts hown hml hlocks hnm hK hE hI hA hl hQ => ?_)
  have hown : s.vm.findClass RX1 = some m.cls := hown
  refine lv_aload_n hx hb dX1_speedOf_0 rfl (lv_at hl 1 rfl) ?_
  refine gX1_89 (i := jv) hx hb hts hown hK hI hjv dX1_speedOf_1 ?_
  refine lv_aload_n hx hb dX1_speedOf_4 rfl (lv_at hl 0 rfl) ?_
  refine gX1_30 (i := it) hx hb hts hown hK hI hit dX1_speedOf_5 ?_
  obtain ⟨x1, ex1⟩ : ∃ z : Int32, z = (if (S.1 1 it 9) < (S.1 2 jv 2) then (S.1 1 it 9) else (S.1 2 jv 2)) := ⟨_, rfl⟩
  refine va_mmin (rest := []) hx hb (by rw [hml]; exact hl.1.symm) hown (hts _ q554) (hts _ q334) (hts _ q12) (hts _ q335) (Nat.le_of_ble_eq_true rfl) (Nat.le_of_ble_eq_true rfl) (Nat.zero_le _) (Nat.zero_le _) dX1_speedOf_8 ?_
  rw [← ex1]
  refine lv_istore_n (lv' := [(2, .int x1), (0, .ref (Z.A 1 it)), (1, .ref (Z.A 2 jv))]) hx hb dX1_speedOf_11 rfl hl (by decide) rfl (fun ls hl => ?_)
  refine lv_ldc2d (v := 4635217326480398746) hx hb hown (hts _ q626) dX1_speedOf_12 ?_
  refine lv_aload_n hx hb dX1_speedOf_15 rfl (lv_at hl 1 rfl) ?_
  refine gX1_58 (i := it) hx hb hts hown hK hI hit dX1_speedOf_16 ?_
  refine lv_i2d hx hb dX1_speedOf_19 ?_
  refine lv_dmul hx hb dX1_speedOf_20 (nn_w1 _) ?_
  refine lv_dstore_n (lv' := [(3, .double (FP.dmul (4635217326480398746 : UInt64) (FP.i2d (S.1 1 it 2)))), (2, .int x1), (0, .ref (Z.A 1 it)), (1, .ref (Z.A 2 jv))]) hx hb dX1_speedOf_21 rfl hl (by decide) rfl (fun ls hl => ?_)
  refine lv_ldc2d (v := 4637975781252163174) hx hb hown (hts _ q627) dX1_speedOf_22 ?_
  refine lv_aload_n hx hb dX1_speedOf_25 rfl (lv_at hl 2 rfl) ?_
  refine gX1_58 (i := it) hx hb hts hown hK hI hit dX1_speedOf_26 ?_
  refine lv_i2d hx hb dX1_speedOf_29 ?_
  refine lv_dmul hx hb dX1_speedOf_30 (nn_w2 _) ?_
  refine lv_dstore (lv' := [(5, .double (FP.dmul (4637975781252163174 : UInt64) (FP.i2d (S.1 1 it 2)))), (3, .double (FP.dmul (4635217326480398746 : UInt64) (FP.i2d (S.1 1 it 2)))), (2, .int x1), (0, .ref (Z.A 1 it)), (1, .ref (Z.A 2 jv))]) hx hb dX1_speedOf_31 hl (by decide) rfl (fun ls hl => ?_)
  refine lv_iload_n hx hb dX1_speedOf_33 rfl (lv_at hl 2 rfl) ?_
  refine lv_iload_n hx hb dX1_speedOf_34 rfl (lv_at hl 2 rfl) ?_
  refine lv_imul hx hb dX1_speedOf_35 ?_
  refine lv_istore (lv' := [(7, .int (x1 * x1)), (5, .double (FP.dmul (4637975781252163174 : UInt64) (FP.i2d (S.1 1 it 2)))), (3, .double (FP.dmul (4635217326480398746 : UInt64) (FP.i2d (S.1 1 it 2)))), (2, .int x1), (0, .ref (Z.A 1 it)), (1, .ref (Z.A 2 jv))]) hx hb dX1_speedOf_36 hl (by decide) rfl (fun ls hl => ?_)
  refine lv_aload_n hx hb dX1_speedOf_38 rfl (lv_at hl 4 rfl) ?_
  refine gX1_52 (i := it) hx hb hts hown hK hI hit dX1_speedOf_39 ?_
  refine lv_iconst (v := 2) hx hb dX1_speedOf_42 (by decide) ?_
  refine lv_icmp_eq (tgt := 63) hx hb dX1_speedOf_43 (by decide) (fun c2 => ?_) (fun c2 => ?_)
  · refine lv_iload_n hx hb dX1_speedOf_63 rfl (lv_at hl 3 rfl) ?_
    have HE : X_speedOf Z S it jv = x1 := by subst ex1; exact (if_pos c2)
    exact rt_i hx hb hr hlocks hI hA hQ ⟨by rw [HE], rfl⟩ (Nat.zero_le _) (Nat.zero_le _) dX1_speedOf_64
  · refine lv_iload hx hb dX1_speedOf_46 (lv_at hl 0 rfl) ?_
    refine lv_i2d hx hb dX1_speedOf_48 ?_
    refine lv_dload_n hx hb dX1_speedOf_49 rfl (lv_at hl 2 rfl) ?_
    refine lv_dcmp hx hb dX1_speedOf_50 ?_
    refine lv_if_le (tgt := 63) hx hb dX1_speedOf_51 (by decide) (fun c3 => ?_) (fun c3 => ?_)
    · refine lv_iload_n hx hb dX1_speedOf_63 rfl (lv_at hl 3 rfl) ?_
      have HE : X_speedOf Z S it jv = x1 := by subst ex1; exact (if_neg c2).trans ((if_pos c3))
      exact rt_i hx hb hr hlocks hI hA hQ ⟨by rw [HE], rfl⟩ (Nat.zero_le _) (Nat.zero_le _) dX1_speedOf_64
    · refine lv_iload hx hb dX1_speedOf_54 (lv_at hl 0 rfl) ?_
      refine lv_i2d hx hb dX1_speedOf_56 ?_
      refine lv_dload hx hb dX1_speedOf_57 (lv_at hl 1 rfl) ?_
      refine lv_dcmp hx hb dX1_speedOf_59 ?_
      refine lv_if_lt (tgt := 65) hx hb dX1_speedOf_60 (by decide) (fun c4 => ?_) (fun c4 => ?_)
      · obtain ⟨r5, er5⟩ : ∃ z : Int32, z = X_speedW (FP.dmul (4635217326480398746 : UInt64) (FP.i2d (S.1 1 it 2))) x1.toNatClampNeg x1 := ⟨_, rfl⟩
        have hL6 : ∀ (n : Nat) (i_ : Int32) (ls : Array Slot), i_.toInt ≤ (n : Int) + 1 → X_speedW (FP.dmul (4635217326480398746 : UInt64) (FP.i2d (S.1 1 it 2))) n i_ = r5 → lv_has ls 8 [(7, .int (x1 * x1)), (5, .double (FP.dmul (4637975781252163174 : UInt64) (FP.i2d (S.1 1 it 2)))), (3, .double (FP.dmul (4635217326480398746 : UInt64) (FP.i2d (S.1 1 it 2)))), (2, .int i_), (0, .ref (Z.A 1 it)), (1, .ref (Z.A 2 jv))] → W p G.1 e ({ frames := 1, cells := 0, slots := 0, locals := 21 }) s m args below meth c H locs 0 0 Q (F0 m 65 ls []) := by
          intro n
          induction n with
          | zero =>
            intro i_ ls h2 hr9 hl
            refine lv_iload_n hx hb dX1_speedOf_65 rfl (lv_at hl 3 rfl) ?_
            refine lv_iconst (v := 1) hx hb dX1_speedOf_66 (by decide) ?_
            refine lv_icmp_le (tgt := 85) hx hb dX1_speedOf_67 (by decide) (fun h8 => ?_) (fun h8 => ?_)
            · have e9 : i_ = r5 := by rw [← hr9]; rfl
              rw [e9] at hl
              refine lv_iload_n hx hb dX1_speedOf_85 rfl (lv_at hl 3 rfl) ?_
              have HE : X_speedOf Z S it jv = r5 := by subst er5 ex1; exact (if_neg c2).trans ((if_neg c3).trans ((if_pos c4)))
              exact rt_i hx hb hr hlocks hI hA hQ ⟨by rw [HE], rfl⟩ (Nat.zero_le _) (Nat.zero_le _) dX1_speedOf_86
            · have := i32_nle1 h8
              exact absurd h2 (by omega)
          | succ n ih =>
            intro i_ ls h2 hr9 hl
            refine lv_iload_n hx hb dX1_speedOf_65 rfl (lv_at hl 3 rfl) ?_
            refine lv_iconst (v := 1) hx hb dX1_speedOf_66 (by decide) ?_
            refine lv_icmp_le (tgt := 85) hx hb dX1_speedOf_67 (by decide) (fun h8 => ?_) (fun h8 => ?_)
            · have e9 : i_ = r5 := by rw [← hr9]; exact (if_pos h8).symm
              rw [e9] at hl
              refine lv_iload_n hx hb dX1_speedOf_85 rfl (lv_at hl 3 rfl) ?_
              have HE : X_speedOf Z S it jv = r5 := by subst er5 ex1; exact (if_neg c2).trans ((if_neg c3).trans ((if_pos c4)))
              exact rt_i hx hb hr hlocks hI hA hQ ⟨by rw [HE], rfl⟩ (Nat.zero_le _) (Nat.zero_le _) dX1_speedOf_86
            · have hi2 := i32_nle1 h8
              refine lv_iload_n hx hb dX1_speedOf_70 rfl (lv_at hl 3 rfl) ?_
              refine lv_iload_n hx hb dX1_speedOf_71 rfl (lv_at hl 3 rfl) ?_
              refine lv_imul hx hb dX1_speedOf_72 ?_
              refine lv_i2d hx hb dX1_speedOf_73 ?_
              refine lv_dload_n hx hb dX1_speedOf_74 rfl (lv_at hl 2 rfl) ?_
              refine lv_dcmp hx hb dX1_speedOf_75 ?_
              refine lv_if_le (tgt := 85) hx hb dX1_speedOf_76 (by decide) (fun h9 => ?_) (fun h9 => ?_)
              · have e9 : i_ = r5 := by rw [← hr9]; exact ((if_neg h8).trans (if_pos h9)).symm
                rw [e9] at hl
                refine lv_iload_n hx hb dX1_speedOf_85 rfl (lv_at hl 3 rfl) ?_
                have HE : X_speedOf Z S it jv = r5 := by subst er5 ex1; exact (if_neg c2).trans ((if_neg c3).trans ((if_pos c4)))
                exact rt_i hx hb hr hlocks hI hA hQ ⟨by rw [HE], rfl⟩ (Nat.zero_le _) (Nat.zero_le _) dX1_speedOf_86
              · obtain ⟨x7, ex7⟩ : ∃ z : Int32, z = i_ + (-1) := ⟨_, rfl⟩
                refine lv_iinc (v := x7) (lv' := [(2, .int x7), (7, .int (x1 * x1)), (5, .double (FP.dmul (4637975781252163174 : UInt64) (FP.i2d (S.1 1 it 2)))), (3, .double (FP.dmul (4635217326480398746 : UInt64) (FP.i2d (S.1 1 it 2)))), (0, .ref (Z.A 1 it)), (1, .ref (Z.A 2 jv))]) hx hb dX1_speedOf_79 hl (k := 3) rfl (by rw [ex7]; rfl) (by decide) rfl (fun ls hl => ?_)
                refine lv_goto (tgt := 65) hx hb dX1_speedOf_82 (by decide) ?_
                have e8 := i32_dec hi2
                rw [← ex7] at e8
                exact ih x7 ls (by omega) (by rw [← hr9, ex7]; exact ((if_neg h8).trans (if_neg h9)).symm) (lv_sub hl [1, 2, 3, 0, 4, 5] rfl)
        exact hL6 _ x1 ls (i32_nat_le _) er5.symm (lv_sub hl [0, 1, 2, 3, 4, 5] rfl)
      · refine lv_iload_n hx hb dX1_speedOf_63 rfl (lv_at hl 3 rfl) ?_
        have HE : X_speedOf Z S it jv = x1 := by subst ex1; exact (if_neg c2).trans ((if_neg c3).trans ((if_neg c4)))
        exact rt_i hx hb hr hlocks hI hA hQ ⟨by rw [HE], rfl⟩ (Nat.zero_le _) (Nat.zero_le _) dX1_speedOf_64

def X_minutesOf (Z : XZ) (S : XS) (it : Nat) (jv : Nat) : Int32 :=
  let x1 := if 0 < (6 * (X_speedOf Z S it jv)) then ((((S.1 1 it 1) + (6 * (X_speedOf Z S it jv))) - 1) / (6 * (X_speedOf Z S it jv))) else 0
  x1
set_option maxHeartbeats 4000000 in
set_option maxRecDepth 100000 in
theorem cX_minutesOf (G : GX) (Z : XZ) (S : XS) (it : Nat) (jv : Nat) (hit : it < Z.O 1) (hjv : jv < Z.O 2) : FC G yX1_minutesOf cX1_minutesOf 3 (some .int) ({ frames := 2, cells := 0, slots := 0, locals := 48 }) [.ref (Z.A 1 it), .ref (Z.A 2 jv)] (xW G.2.2.2 G.2.1 Z S) (pv (.int (X_minutesOf Z S it jv)) (xW G.2.2.2 G.2.1 Z S)) := by
  refine FC.go (lv := [(0, .ref (Z.A 1 it)), (1, .ref (Z.A 2 jv))]) (by decide) (Nat.le_of_ble_eq_true rfl) rfl (fun p e s m args below meth c A H locs ls Q hx hb hr hts hown hml hlocks hnm hK hE hI hA hl hQ => ?_)
  have hown : s.vm.findClass RX1 = some m.cls := hown
  refine lv_bipush (v := 6) hx hb dX1_minutesOf_0 (by decide) ?_
  refine lv_aload_n hx hb dX1_minutesOf_2 rfl (lv_at hl 0 rfl) ?_
  refine lv_aload_n hx hb dX1_minutesOf_3 rfl (lv_at hl 1 rfl) ?_
  refine cVv (rest := [.int 6]) hx hb hml hts hown hK hE hI (cX_speedOf G Z S it jv hit hjv) kX1_98 ⟨Nat.le_of_ble_eq_true rfl, Nat.le_of_ble_eq_true rfl⟩ rfl rfl (kk := 1) (ii := it) (xW1 hit) rfl rfl hl.1 rfl (Nat.le_of_ble_eq_true rfl) dX1_minutesOf_4 ⟨Nat.zero_le _, Nat.zero_le _⟩ (fun H locs hI => ?_)
  refine lv_imul hx hb dX1_minutesOf_7 ?_
  refine lv_istore_n (lv' := [(2, .int (6 * (X_speedOf Z S it jv))), (0, .ref (Z.A 1 it)), (1, .ref (Z.A 2 jv))]) hx hb dX1_minutesOf_8 rfl hl (by decide) rfl (fun ls hl => ?_)
  refine lv_iload_n hx hb dX1_minutesOf_9 rfl (lv_at hl 0 rfl) ?_
  have hJ2 : ∀ (x1 : Int32), (x1 = if 0 < (6 * (X_speedOf Z S it jv)) then ((((S.1 1 it 1) + (6 * (X_speedOf Z S it jv))) - 1) / (6 * (X_speedOf Z S it jv))) else 0) → W p G.1 e ({ frames := 2, cells := 0, slots := 0, locals := 48 }) s m args below meth c H locs 0 0 Q (F0 m 27 ls [.int x1]) := by
    intro x1 ex1
    have HE : X_minutesOf Z S it jv = x1 := by subst ex1; exact rfl
    exact rt_i hx hb hr hlocks hI hA hQ ⟨by rw [HE], rfl⟩ (Nat.zero_le _) (Nat.zero_le _) dX1_minutesOf_27
  refine lv_if_gt (tgt := 17) hx hb dX1_minutesOf_10 (by decide) (fun c3 => ?_) (fun c3 => ?_)
  · refine lv_aload_n hx hb dX1_minutesOf_17 rfl (lv_at hl 1 rfl) ?_
    refine gX1_55 (i := it) hx hb hts hown hK hI hit dX1_minutesOf_18 ?_
    refine lv_iload_n hx hb dX1_minutesOf_21 rfl (lv_at hl 0 rfl) ?_
    refine lv_iadd hx hb dX1_minutesOf_22 ?_
    refine lv_iconst (v := 1) hx hb dX1_minutesOf_23 (by decide) ?_
    refine lv_isub hx hb dX1_minutesOf_24 ?_
    refine lv_iload_n hx hb dX1_minutesOf_25 rfl (lv_at hl 0 rfl) ?_
    refine lv_idiv hx hb dX1_minutesOf_26 (i32_pos_ne c3) ?_
    exact hJ2 ((((S.1 1 it 1) + (6 * (X_speedOf Z S it jv))) - 1) / (6 * (X_speedOf Z S it jv))) (by exact (if_pos c3).symm)
  · refine lv_iconst (v := 0) hx hb dX1_minutesOf_13 (by decide) ?_
    refine lv_goto (tgt := 27) hx hb dX1_minutesOf_14 (by decide) ?_
    exact hJ2 0 (by exact (if_neg c3).symm)

